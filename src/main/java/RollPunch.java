/** A workshop for the rolls of a player piano; ../shared/DOC.md says what each call does. */
public final class RollPunch {
    public static final int NONE = -1;

    private static final int STEPS = 96;
    private static final int TRACKS = 26;
    private static final int NOTES = 20;
    // The pedal is voice 0 and note n is voice n + 1: so the own track of each voice v is v + 2.
    private static final int VOICES = NOTES + 1;
    private static final int PEDAL = 0;
    private static final int OWN_TRACK_OF_PEDAL = 2;
    private static final int PEDAL_BIT = 1;
    private static final int VOICE_BITS = (1 << VOICES) - 1;
    private static final int NOTE_BITS = VOICE_BITS - PEDAL_BIT;
    private static final int TRACK_BITS = (1 << TRACKS) - 1;
    private static final int READ_FOR_PEDAL = -2;

    private static final int FURTHEST = 3;
    private static final int WIDEST_BRIDGE = 3;
    private static final int WIDEST_REACH = 8;
    private static final int MOST_SAVED = 6;
    private static final int MOST_CODES = 60;
    private static final int FIRST_CODE = 33;
    private static final int LAST_CODE = 126;
    private static final int LAST_COUNT = 14;
    private static final int LAST_OF_STEP = 6;
    private static final int LAST_OF_PLAYED = 5;
    private static final int LAST_OF_TUNE = 3;

    private final Paper paper = new Paper();
    private final Hearing heard = new Hearing();
    private final Shelf shelf = new Shelf();
    private final NoteText text = new NoteText();
    private final Trial trial = new Trial();

    public RollPunch() {
    }

    // ---- punching, patches

    public int punch(int note, int step, int length)
            throws IndexOutOfBoundsException, IllegalArgumentException, IllegalStateException {
        if (note < NONE || note >= NOTES || !isStep(step)) {
            throw new IndexOutOfBoundsException("there is no such note or step");
        }
        needLength(length);
        if (!fits(step, length)) {
            throw new IllegalStateException("the last step would be beyond the roll");
        }
        shelf.keep(paper);
        int more = paper.cutChain(note + 1, step, length);
        heard.listenTo(paper);
        return more;
    }

    public int patch(int track, int from, int to)
            throws IndexOutOfBoundsException, IllegalArgumentException {
        needTrack(track);
        needSteps(from, to);
        shelf.keep(paper);
        int less = paper.cover(track, from, to);
        heard.listenTo(paper);
        return less;
    }

    public int peel(int track, int from, int to)
            throws IndexOutOfBoundsException, IllegalArgumentException {
        needTrack(track);
        needSteps(from, to);
        shelf.keep(paper);
        int taken = paper.uncover(track, from, to);
        heard.listenTo(paper);
        return taken;
    }

    public int shift(int by) throws IllegalArgumentException, IllegalStateException {
        needAside(by);
        if (!paper.canMove(by)) {
            throw new IllegalStateException("a hole or a patch would be on no track");
        }
        shelf.keep(paper);
        paper.move(by);
        heard.listenTo(paper);
        return rightNotes();
    }

    // ---- edges, steering, settings

    public int tear(int from, int to, int by)
            throws IndexOutOfBoundsException, IllegalArgumentException, IllegalStateException {
        needSteps(from, to);
        needAside(by);
        if (!paper.canTear(from, to, by)) {
            throw new IllegalStateException("an edge would be beyond its range");
        }
        shelf.keep(paper);
        paper.addToEdges(from, to, by);
        heard.listenTo(paper);
        return rightNotes();
    }

    public int steer(int from, int to, int by)
            throws IndexOutOfBoundsException, IllegalArgumentException {
        needSteps(from, to);
        needAside(by);
        shelf.keep(paper);
        paper.putSteers(from, to, by);
        heard.listenTo(paper);
        return rightNotes();
    }

    public int set(int setting, int value)
            throws IndexOutOfBoundsException, IllegalArgumentException {
        needSetting(setting);
        int largest = setting == 0 ? WIDEST_BRIDGE : WIDEST_REACH;
        if (value < 0 || value > largest) {
            throw new IllegalArgumentException("the value is out of range");
        }
        shelf.keep(paper);
        int previous = settingOf(setting);
        if (setting == 0) {
            paper.bridge = value;
        } else {
            paper.reach = value;
        }
        heard.listenTo(paper);
        return previous;
    }

    public int learn() {
        shelf.keep(paper);
        paper.melody.copyNotes(heard.chains);
        return paper.melody.noteCount();
    }

    // ---- texts

    public int append(int code) throws IllegalArgumentException, IllegalStateException {
        if (code < FIRST_CODE || code > LAST_CODE) {
            throw new IllegalArgumentException("no character of the buffer has this code");
        }
        if (text.isFull()) {
            throw new IllegalStateException("the buffer is full");
        }
        return text.add(code);
    }

    public int clearBuffer() {
        return text.empty();
    }

    public int firstError() {
        return text.readAll();
    }

    public int punchAll() throws IllegalArgumentException, IllegalStateException {
        if (!text.readRow()) {
            throw new IllegalArgumentException("the buffer is not a complete row of notes");
        }
        if (!text.allFit()) {
            throw new IllegalStateException("a last step would be beyond the roll");
        }
        shelf.keep(paper);
        int more = text.cutAll(paper);
        text.empty();
        heard.listenTo(paper);
        return more;
    }

    public int undo() throws IllegalStateException {
        if (shelf.size() == 0) {
            throw new IllegalStateException("there is no saved state");
        }
        int left = shelf.giveBack(paper);
        heard.listenTo(paper);
        return left;
    }

    // ---- what there is

    public int place(int step, int track, int what)
            throws IndexOutOfBoundsException, IllegalArgumentException {
        if (!isStep(step)) {
            throw new IndexOutOfBoundsException("there is no such step");
        }
        needTrack(track);
        needWhat(what, 2);
        if (what == 0) {
            return paper.holes[step] >> track & 1;
        }
        if (what == 1) {
            return paper.patches[step] >> track & 1;
        }
        int voice = track - OWN_TRACK_OF_PEDAL - paper.edges[step] - paper.steers[step];
        if (voice == PEDAL) {
            return READ_FOR_PEDAL;
        }
        return voice > PEDAL && voice < VOICES ? voice - 1 : NONE;
    }

    public int step(int step, int what)
            throws IndexOutOfBoundsException, IllegalArgumentException {
        if (!isStep(step)) {
            throw new IndexOutOfBoundsException("there is no such step");
        }
        needWhat(what, LAST_OF_STEP);
        return ofStep(step, what);
    }

    public int played(int place, int what)
            throws IndexOutOfBoundsException, IllegalArgumentException {
        int first = heard.chains.firstStepOf(place);
        if (first == NONE) {
            throw new IndexOutOfBoundsException("there are not so many notes that are played");
        }
        needWhat(what, LAST_OF_PLAYED);
        return ofPlayed(heard.chains.voiceOf(place), first, what);
    }

    public int tune(int place, int what)
            throws IndexOutOfBoundsException, IllegalArgumentException {
        int first = paper.melody.firstStepOf(place);
        if (first == NONE) {
            throw new IndexOutOfBoundsException("there are not so many notes in the tune");
        }
        needWhat(what, LAST_OF_TUNE);
        return ofTune(paper.melody.voiceOf(place), first, what);
    }

    public int count(int what) throws IllegalArgumentException {
        needWhat(what, LAST_COUNT);
        return counted(what);
    }

    public int setting(int setting) throws IndexOutOfBoundsException {
        needSetting(setting);
        return settingOf(setting);
    }

    // ---- what would be; nothing is changed

    public int bestSteer(int from, int to, int what)
            throws IndexOutOfBoundsException, IllegalArgumentException {
        needSteps(from, to);
        needWhat(what, 1);
        trial.findSteer(paper, heard, from, to);
        return what == 0 ? trial.best : trial.most;
    }

    public int bestBridge() {
        trial.findBridge(paper, heard);
        return trial.best;
    }

    public int bestBreak(int by, int what) throws IllegalArgumentException {
        needAside(by);
        needWhat(what, 1);
        trial.findBreak(paper, heard, by);
        return what == 0 ? trial.best : trial.most;
    }

    public int holesFor(int length) throws IllegalArgumentException {
        needLength(length);
        return paper.holesIn(length);
    }

    public double tuneShare() {
        return rightShare();
    }

    public long digest() {
        long hash = 2371L;
        for (int what = 0; what <= LAST_COUNT; what++) {
            hash = mixed(hash, counted(what));
        }
        hash = mixed(hash, paper.bridge);
        hash = mixed(hash, paper.reach);
        hash = mixedSteps(hash);
        hash = mixedNotes(hash, false);
        hash = mixedNotes(hash, true);
        hash = mixedBest(hash);
        hash = mixed(hash, bitsOfShare(rightShare()));
        return text.mixedInto(hash);
    }

    // ---- the hash's parts

    private static long mixed(long hash, long value) {
        return 31L * hash + value;
    }

    private long mixedSteps(long hash) {
        long result = hash;
        for (int s = 0; s < STEPS; s++) {
            for (int what = 0; what <= LAST_OF_STEP; what++) {
                result = mixed(result, ofStep(s, what));
            }
        }
        return result;
    }

    private long mixedNotes(long hash, boolean ofTheTune) {
        Chains notes = ofTheTune ? paper.melody : heard.chains;
        int largest = ofTheTune ? LAST_OF_TUNE : LAST_OF_PLAYED;
        long result = hash;
        for (int s = 0; s < STEPS; s++) {
            for (int voice = PEDAL + 1; voice < VOICES; voice++) {
                for (int what = 0; what <= largest && notes.beginsAt(voice, s); what++) {
                    int value = ofTheTune ? ofTune(voice, s, what) : ofPlayed(voice, s, what);
                    result = mixed(result, value);
                }
            }
        }
        return result;
    }

    private long mixedBest(long hash) {
        int middle = STEPS / 2;
        long result = mixedBestSteer(hash, 0, STEPS - 1);
        result = mixedBestSteer(result, 0, middle - 1);
        result = mixedBestSteer(result, middle, STEPS - 1);
        trial.findBridge(paper, heard);
        result = mixed(result, trial.best);
        result = mixedBestBreak(result, 1);
        return mixedBestBreak(result, -1);
    }

    private long mixedBestSteer(long hash, int from, int to) {
        trial.findSteer(paper, heard, from, to);
        return mixed(mixed(hash, trial.best), trial.most);
    }

    private long mixedBestBreak(long hash, int by) {
        trial.findBreak(paper, heard, by);
        return mixed(mixed(hash, trial.best), trial.most);
    }

    // A share is 0 to 1. Doubling one below 1 up to 1 is exact, and what is then
    // above 1 is the fraction that the bits hold.
    private static long bitsOfShare(double share) {
        if (!(share > 0.0)) {
            return 0L;
        }
        double fraction = share;
        long exponent = 1023L;
        for (int i = 0; i < 1022 && fraction < 1.0; i++) {
            fraction = fraction * 2.0;
            exponent--;
        }
        return (exponent << 52) + (long) ((fraction - 1.0) * 4503599627370496.0);
    }

    // ---- numbers of what there is

    private int settingOf(int setting) {
        return setting == 0 ? paper.bridge : paper.reach;
    }

    private int rightNotes() {
        return heard.chains.sameNotes(paper.melody);
    }

    private double rightShare() {
        int all = paper.melody.noteCount();
        return all == 0 ? 0.0 : (double) rightNotes() / (double) all;
    }

    private int ofStep(int step, int what) {
        if (!isStep(step)) {
            return NONE;
        }
        switch (what) {
            case 0:
                return paper.edges[step];
            case 1:
                return paper.steers[step];
            case 2:
                return (heard.playing[step] & NOTE_BITS) >> 1;
            case 3:
                return (heard.sounding[step] & NOTE_BITS) >> 1;
            case 4:
                return heard.playing[step] & PEDAL_BIT;
            case 5:
                return heard.isPedalWished(step, paper.reach) ? 1 : 0;
            default:
                return paper.openAt(step);
        }
    }

    private int ofPlayed(int voice, int first, int what) {
        int last = heard.chains.lastStepFrom(voice, first);
        switch (what) {
            case 0:
                return voice - 1;
            case 1:
                return first;
            case 2:
                return last;
            case 3:
                return heard.lastSoundAfter(voice, last);
            case 4:
                return heard.holesRead(voice, first, last);
            default:
                return paper.melody.hasChain(voice, first, last) ? 1 : 0;
        }
    }

    private int ofTune(int voice, int first, int what) {
        int last = paper.melody.lastStepFrom(voice, first);
        switch (what) {
            case 0:
                return voice - 1;
            case 1:
                return first;
            case 2:
                return last;
            default:
                return heard.chains.hasChain(voice, first, last) ? 0 : 1;
        }
    }

    private int counted(int what) {
        switch (what) {
            case 0:
                return bitsIn(paper.holes, TRACK_BITS);
            case 1:
                return paper.openHoles();
            case 2:
                return bitsIn(paper.patches, TRACK_BITS);
            case 3:
                return heard.chains.noteCount();
            case 4:
                return paper.melody.noteCount();
            case 5:
                return rightNotes();
            case 6:
                return heard.chains.noteCount() - rightNotes();
            case 7:
                return paper.melody.noteCount() - rightNotes();
            case 8:
                return bitsIn(heard.chains.starts, PEDAL_BIT);
            case 9:
                return bitsIn(heard.playing, PEDAL_BIT);
            case 10:
                return heard.stepsWished(paper.reach);
            case 11:
                return heard.holesOfWrong(paper.melody);
            case 12:
                return paper.openHoles() - bitsIn(heard.read, VOICE_BITS);
            case 13:
                return paper.tornSteps();
            default:
                return shelf.size();
        }
    }

    private static int bitsIn(int[] row, int bits) {
        int sum = 0;
        for (int value : row) {
            sum += Integer.bitCount(value & bits);
        }
        return sum;
    }

    // ---- what is asked of arguments

    private static boolean isStep(int step) {
        return step >= 0 && step < STEPS;
    }

    private static boolean fits(int first, int length) {
        return first + length <= STEPS;
    }

    private static void needSteps(int from, int to) {
        if (!isStep(from) || !isStep(to)) {
            throw new IndexOutOfBoundsException("there is no such step");
        }
        if (to < from) {
            throw new IllegalArgumentException("to is less than from");
        }
    }

    private static void needTrack(int track) {
        if (track < 0 || track >= TRACKS) {
            throw new IndexOutOfBoundsException("there is no such track");
        }
    }

    private static void needSetting(int setting) {
        if (setting < 0 || setting > 1) {
            throw new IndexOutOfBoundsException("there is no such setting");
        }
    }

    private static void needAside(int by) {
        if (by < -FURTHEST || by > FURTHEST) {
            throw new IllegalArgumentException("by is out of range");
        }
    }

    private static void needLength(int length) {
        if (length < 1 || length > STEPS) {
            throw new IllegalArgumentException("the length is out of range");
        }
    }

    private static void needWhat(int what, int largest) {
        if (what < 0 || what > largest) {
            throw new IllegalArgumentException("there is no such number");
        }
    }

    /** What undo brings back: the roll, the edges, the steering, the settings and the tune. */
    private static final class Paper {
        // For each step, a bit for each track.
        final int[] holes = new int[STEPS];
        final int[] patches = new int[STEPS];
        final int[] edges = new int[STEPS];
        final int[] steers = new int[STEPS];
        final Chains melody = new Chains();
        int bridge = 1;
        int reach = 2;

        void copyFrom(Paper other) {
            System.arraycopy(other.holes, 0, holes, 0, STEPS);
            System.arraycopy(other.patches, 0, patches, 0, STEPS);
            System.arraycopy(other.edges, 0, edges, 0, STEPS);
            System.arraycopy(other.steers, 0, steers, 0, STEPS);
            melody.copyNotes(other.melody);
            bridge = other.bridge;
            reach = other.reach;
        }

        int cutChain(int voice, int first, int length) {
            int bit = 1 << voice + OWN_TRACK_OF_PEDAL;
            int last = first + length - 1;
            int more = 0;
            int next = first;
            for (int at = first; at <= last; at++) {
                if (at == next || at == last) {
                    more += cut(at, bit);
                    next = at + bridge + 1;
                }
            }
            return more;
        }

        private int cut(int step, int bit) {
            if (!isStep(step)) {
                return 0;
            }
            int more = (holes[step] & bit) == 0 ? 1 : 0;
            holes[step] |= bit;
            patches[step] &= ~bit;
            return more;
        }

        int holesIn(int length) {
            int sum = 0;
            int next = 0;
            for (int at = 0; at < length; at++) {
                if (at == next || at == length - 1) {
                    sum++;
                    next = at + bridge + 1;
                }
            }
            return sum;
        }

        int cover(int track, int from, int to) {
            int bit = 1 << track;
            int less = 0;
            for (int s = 0; s < STEPS; s++) {
                if (s >= from && s <= to) {
                    less += (openAt(s) & bit) != 0 ? 1 : 0;
                    patches[s] |= bit;
                }
            }
            return less;
        }

        int uncover(int track, int from, int to) {
            int bit = 1 << track;
            int taken = 0;
            for (int s = 0; s < STEPS; s++) {
                if (s >= from && s <= to) {
                    taken += (patches[s] & bit) != 0 ? 1 : 0;
                    patches[s] &= ~bit;
                }
            }
            return taken;
        }

        boolean canMove(int by) {
            for (int s = 0; s < STEPS; s++) {
                int used = holes[s] | patches[s];
                if (moved(moved(used, by) & TRACK_BITS, -by) != used) {
                    return false;
                }
            }
            return true;
        }

        void move(int by) {
            for (int s = 0; s < STEPS; s++) {
                holes[s] = moved(holes[s], by);
                patches[s] = moved(patches[s], by);
            }
        }

        boolean canTear(int from, int to, int by) {
            for (int s = 0; s < STEPS; s++) {
                if (s >= from && s <= to && kept(edges[s] + by) != edges[s] + by) {
                    return false;
                }
            }
            return true;
        }

        void addToEdges(int from, int to, int by) {
            for (int s = 0; s < STEPS; s++) {
                if (s >= from && s <= to) {
                    edges[s] += by;
                }
            }
        }

        void putSteers(int from, int to, int by) {
            for (int s = 0; s < STEPS; s++) {
                if (s >= from && s <= to) {
                    steers[s] = by;
                }
            }
        }

        int openAt(int step) {
            return isStep(step) ? holes[step] & ~patches[step] : 0;
        }

        int openHoles() {
            int sum = 0;
            for (int s = 0; s < STEPS; s++) {
                sum += Integer.bitCount(openAt(s));
            }
            return sum;
        }

        int tornSteps() {
            int sum = 0;
            for (int s = 0; s < STEPS; s++) {
                sum += edges[s] != 0 ? 1 : 0;
            }
            return sum;
        }

        // The voices for which an open hole would be read if the steering were another.
        int voicesAt(int step, int steering) {
            return isStep(step) ? voicesOf(openAt(step), edges[step] + steering) : 0;
        }

        private static int voicesOf(int open, int aside) {
            return moved(open, -OWN_TRACK_OF_PEDAL - aside) & VOICE_BITS;
        }

        // Tracks are 26 bits and go aside by 8 at the most to the lower ones, by 4 to the
        // higher ones: so no bit is lost at the upper end of an int.
        private static int moved(int tracks, int by) {
            return by >= 0 ? tracks << by : tracks >> -by;
        }

        static int kept(int aside) {
            return Math.max(-FURTHEST, Math.min(FURTHEST, aside));
        }
    }

    /** Chains of all voices: for each step, the voices of which a chain begins or ends there. */
    private static final class Chains {
        final int[] starts = new int[STEPS];
        final int[] ends = new int[STEPS];

        void link(int[] read, int bridge) {
            for (int s = 0; s < STEPS && s < read.length; s++) {
                int before = 0;
                int after = 0;
                for (int away = 1; away <= bridge + 1 && read[s] != 0; away++) {
                    before |= s >= away ? read[s - away] : 0;
                    after |= s + away < read.length ? read[s + away] : 0;
                }
                starts[s] = read[s] & ~before;
                ends[s] = read[s] & ~after;
            }
        }

        void copyNotes(Chains other) {
            for (int s = 0; s < STEPS; s++) {
                starts[s] = other.starts[s] & NOTE_BITS;
                ends[s] = other.ends[s] & NOTE_BITS;
            }
        }

        int noteCount() {
            return bitsIn(starts, NOTE_BITS);
        }

        // Chains of one voice never overlap: so two that begin together are the same
        // if the next end of the one is also the next end of the other.
        int sameNotes(Chains other) {
            int same = 0;
            int together = 0;
            for (int s = 0; s < STEPS; s++) {
                together |= starts[s] & other.starts[s] & NOTE_BITS;
                same += Integer.bitCount(together & ends[s] & other.ends[s]);
                together &= ~(ends[s] | other.ends[s]);
            }
            return same;
        }

        boolean beginsAt(int voice, int step) {
            return isStep(step) && (starts[step] >> voice & 1) != 0;
        }

        boolean hasChain(int voice, int first, int last) {
            return beginsAt(voice, first) && lastStepFrom(voice, first) == last;
        }

        int lastStepFrom(int voice, int first) {
            for (int s = 0; s < STEPS; s++) {
                if (s >= first && (ends[s] >> voice & 1) != 0) {
                    return s;
                }
            }
            return NONE;
        }

        int firstStepOf(int place) {
            int before = 0;
            for (int s = 0; s < STEPS && place >= 0; s++) {
                before += Integer.bitCount(starts[s] & NOTE_BITS);
                if (place < before) {
                    return s;
                }
            }
            return NONE;
        }

        int voiceOf(int place) {
            int before = 0;
            int step = firstStepOf(place);
            for (int s = 0; s < step; s++) {
                before += Integer.bitCount(starts[s] & NOTE_BITS);
            }
            for (int voice = PEDAL + 1; voice < VOICES; voice++) {
                if (beginsAt(voice, step)) {
                    if (before == place) {
                        return voice;
                    }
                    before++;
                }
            }
            return NONE;
        }
    }

    /** What the piano makes of the paper; it listens anew after each change. */
    private static final class Hearing {
        final int[] read = new int[STEPS];
        final Chains chains = new Chains();
        // For each step, the voices of which a chain lasts there, and those that sound.
        final int[] playing = new int[STEPS];
        final int[] sounding = new int[STEPS];

        void listenTo(Paper paper) {
            for (int s = 0; s < STEPS; s++) {
                read[s] = paper.voicesAt(s, paper.steers[s]);
            }
            chains.link(read, paper.bridge);
            fillPlaying();
            fillSounding();
        }

        private void fillPlaying() {
            int lasting = 0;
            for (int s = 0; s < STEPS; s++) {
                lasting |= chains.starts[s];
                playing[s] = lasting;
                lasting &= ~chains.ends[s];
            }
        }

        private void fillSounding() {
            int held = 0;
            for (int s = 0; s < STEPS; s++) {
                sounding[s] = playing[s] | held;
                int pedalGoesOn = playing[s] & ~chains.ends[s] & PEDAL_BIT;
                held = pedalGoesOn != 0 ? held | chains.ends[s] : 0;
            }
        }

        int lastSoundAfter(int voice, int last) {
            int end = last;
            for (int s = 0; s < STEPS; s++) {
                boolean rings = (sounding[s] >> voice & 1) != 0 && !chains.beginsAt(voice, s);
                if (s == end + 1 && rings) {
                    end = s;
                }
            }
            return end;
        }

        int holesRead(int voice, int first, int last) {
            int sum = 0;
            for (int s = 0; s < STEPS; s++) {
                if (s >= first && s <= last) {
                    sum += read[s] >> voice & 1;
                }
            }
            return sum;
        }

        int holesOfWrong(Chains melody) {
            int sum = 0;
            for (int s = 0; s < STEPS; s++) {
                for (int voice = PEDAL + 1; voice < VOICES && chains.starts[s] != 0; voice++) {
                    if (chains.beginsAt(voice, s)) {
                        int last = chains.lastStepFrom(voice, s);
                        sum += melody.hasChain(voice, s, last) ? 0 : holesRead(voice, s, last);
                    }
                }
            }
            return sum;
        }

        boolean isPedalWished(int step, int reach) {
            if (!isStep(step) || (playing[step] & NOTE_BITS) != 0) {
                return false;
            }
            int before = 0;
            int after = 0;
            for (int away = 1; away <= reach; away++) {
                before |= step >= away ? playing[step - away] : 0;
                after |= step + away < STEPS ? chains.starts[step + away] : 0;
            }
            return (before & NOTE_BITS) != 0 && (after & NOTE_BITS) != 0;
        }

        int stepsWished(int reach) {
            int sum = 0;
            for (int s = 0; s < STEPS; s++) {
                sum += isPedalWished(s, reach) ? 1 : 0;
            }
            return sum;
        }
    }

    /** Tries what would be, and keeps the first one of those with the most right notes. */
    private static final class Trial {
        private static final int[] NEAREST_FIRST = {0, -1, 1, -2, 2, -3, 3};

        private final int[] read = new int[STEPS];
        private final Chains chains = new Chains();
        int best = 0;
        int most = NONE;

        void findSteer(Paper paper, Hearing heard, int from, int to) {
            most = NONE;
            for (int steering : NEAREST_FIRST) {
                for (int s = 0; s < STEPS; s++) {
                    boolean within = s >= from && s <= to;
                    read[s] = within ? paper.voicesAt(s, steering) : heard.read[s];
                }
                offer(steering, read, paper.bridge, paper.melody);
            }
        }

        void findBridge(Paper paper, Hearing heard) {
            most = NONE;
            for (int bridge = 0; bridge <= WIDEST_BRIDGE; bridge++) {
                offer(bridge, heard.read, bridge, paper.melody);
            }
        }

        void findBreak(Paper paper, Hearing heard, int by) {
            most = NONE;
            for (int s = 0; s < STEPS; s++) {
                read[s] = paper.voicesAt(s, Paper.kept(paper.steers[s] + by));
            }
            boolean isOther = true;
            for (int s = 0; s < STEPS; s++) {
                // What is read just as for an earlier step can't have more right notes than it.
                if (isOther) {
                    offer(s, read, paper.bridge, paper.melody);
                }
                isOther = read[s] != heard.read[s];
                read[s] = heard.read[s];
            }
        }

        private void offer(int which, int[] row, int bridge, Chains melody) {
            chains.link(row, bridge);
            int right = chains.sameNotes(melody);
            if (right > most) {
                most = right;
                best = which;
            }
        }
    }

    /** The saved states, the oldest one first. */
    private static final class Shelf {
        private final Paper[] saved = new Paper[MOST_SAVED];
        private int filled = 0;

        Shelf() {
            for (int i = 0; i < saved.length; i++) {
                saved[i] = new Paper();
            }
        }

        int size() {
            return filled;
        }

        void keep(Paper now) {
            if (filled >= saved.length) {
                dropOldest();
            }
            if (filled >= 0 && filled < saved.length) {
                saved[filled].copyFrom(now);
                filled++;
            }
        }

        private void dropOldest() {
            Paper oldest = saved[0];
            for (int i = 1; i < saved.length; i++) {
                saved[i - 1] = saved[i];
            }
            saved[saved.length - 1] = oldest;
            filled = saved.length - 1;
        }

        int giveBack(Paper now) {
            if (filled > 0 && filled <= saved.length) {
                filled--;
                now.copyFrom(saved[filled]);
            }
            return filled;
        }
    }

    /** The buffer, and the reading of it as a row of notes. */
    private static final class NoteText {
        // What is being read; each one but the length ends with a sign of its own.
        private static final int IN_NOTE = 0;
        private static final int IN_STEP = 1;
        private static final int IN_LENGTH = 2;
        private static final int NO_NUMBER = -1;
        private static final int PEDAL_SIGN = -2;

        private final int[] codes = new int[MOST_CODES];
        private int used = 0;
        // Each part is longer than a character: so there are fewer parts than characters.
        private final int[] voices = new int[MOST_CODES];
        private final int[] firsts = new int[MOST_CODES];
        private final int[] lengths = new int[MOST_CODES];
        private int parts = 0;
        private int stage = IN_NOTE;
        private int number = NO_NUMBER;
        private int voice = PEDAL;
        private int first = 0;

        boolean isFull() {
            return used >= codes.length;
        }

        int add(int code) {
            if (used >= 0 && used < codes.length) {
                codes[used] = code;
                used++;
            }
            return used;
        }

        int empty() {
            int had = used;
            used = 0;
            return had;
        }

        int readAll() {
            parts = 0;
            stage = IN_NOTE;
            number = NO_NUMBER;
            for (int i = 0; i < used && i < codes.length; i++) {
                if (!takes(codes[i])) {
                    return i;
                }
            }
            return used;
        }

        boolean readRow() {
            if (readAll() < used || stage != IN_LENGTH || number == NO_NUMBER) {
                return false;
            }
            keepPart();
            return true;
        }

        private boolean takes(int code) {
            if (code >= '0' && code <= '9') {
                return takesDigit(code - '0');
            }
            if (code == 'p') {
                return takesPedal();
            }
            return code == signAfter(stage) && number != NO_NUMBER && goesOn();
        }

        private boolean takesDigit(int digit) {
            if (number == 0 || number == PEDAL_SIGN) {
                return false;
            }
            int value = number == NO_NUMBER ? digit : number * 10 + digit;
            if (value > largestOf(stage) || value == 0 && stage == IN_LENGTH) {
                return false;
            }
            number = value;
            return true;
        }

        private boolean takesPedal() {
            if (stage != IN_NOTE || number != NO_NUMBER) {
                return false;
            }
            number = PEDAL_SIGN;
            return true;
        }

        private boolean goesOn() {
            switch (stage) {
                case IN_NOTE:
                    voice = number == PEDAL_SIGN ? PEDAL : number + 1;
                    stage = IN_STEP;
                    break;
                case IN_STEP:
                    first = number;
                    stage = IN_LENGTH;
                    break;
                default:
                    keepPart();
                    stage = IN_NOTE;
                    break;
            }
            number = NO_NUMBER;
            return true;
        }

        private void keepPart() {
            if (parts >= 0 && parts < lengths.length) {
                voices[parts] = voice;
                firsts[parts] = first;
                lengths[parts] = number;
                parts++;
            }
        }

        private static int signAfter(int stage) {
            switch (stage) {
                case IN_NOTE:
                    return '@';
                case IN_STEP:
                    return ':';
                default:
                    return ',';
            }
        }

        private static int largestOf(int stage) {
            switch (stage) {
                case IN_NOTE:
                    return NOTES - 1;
                case IN_STEP:
                    return STEPS - 1;
                default:
                    return STEPS;
            }
        }

        boolean allFit() {
            for (int i = 0; i < parts && i < lengths.length; i++) {
                if (!fits(firsts[i], lengths[i])) {
                    return false;
                }
            }
            return true;
        }

        int cutAll(Paper paper) {
            int more = 0;
            for (int i = 0; i < parts && i < lengths.length; i++) {
                more += paper.cutChain(voices[i], firsts[i], lengths[i]);
            }
            return more;
        }

        long mixedInto(long hash) {
            long result = mixed(hash, used);
            for (int i = 0; i < used && i < codes.length; i++) {
                result = mixed(result, codes[i]);
            }
            return result;
        }
    }
}
