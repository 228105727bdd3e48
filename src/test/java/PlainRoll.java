import java.util.ArrayList;
import java.util.List;
import java.util.regex.Matcher;
import java.util.regex.Pattern;

/**
 * The document once more, as its words stand and without a thought for speed or memory: what
 * ModelTest compares the program with. It shares no code and no way of holding the state with it.
 */
final class PlainRoll {
    static final class Chain {
        int note;
        int first;
        int last;
        int holes;

        boolean isSame(Chain c) {
            return note == c.note && first == c.first && last == c.last;
        }
    }

    private static final Pattern ROW = Pattern.compile(
            "(p|1?[0-9])@([1-8]?[0-9]|9[0-5]):([1-8][0-9]?|9[0-6]?)(,(p|1?[0-9])@([1-8]?[0-9]|9[0-5]):([1-8][0-9]?|9[0-6]?))*");

    private static final class State {
        boolean[][] hole = new boolean[96][26];
        boolean[][] patch = new boolean[96][26];
        int[] edge = new int[96];
        int[] steering = new int[96];
        int[] settings = {1, 2};
        List<Chain> tune = new ArrayList<>();

        State copy() {
            State c = new State();
            for (int s = 0; s < 96; s++) {
                c.hole[s] = hole[s].clone();
                c.patch[s] = patch[s].clone();
            }
            c.edge = edge.clone();
            c.steering = steering.clone();
            c.settings = settings.clone();
            c.tune = new ArrayList<>(tune);
            return c;
        }
    }

    private State now = new State();
    private final List<State> saved = new ArrayList<>();
    private String buffer = "";
    // What is played follows from the state alone, and is found anew when the state may be another.
    private List<Chain> playedNow = null;
    private List<Chain> pedalNow = null;

    private void save() {
        saved.add(now.copy());
        if (saved.size() > 6) {
            saved.remove(0);
        }
    }

    private void changed() {
        playedNow = null;
        pedalNow = null;
    }

    private static void bounds(boolean good) {
        if (!good) {
            throw new IndexOutOfBoundsException();
        }
    }

    private static void argument(boolean good) {
        if (!good) {
            throw new IllegalArgumentException();
        }
    }

    private static void state(boolean good) {
        if (!good) {
            throw new IllegalStateException();
        }
    }

    private static boolean in(int x, int low, int high) {
        return low <= x && x <= high;
    }

    // ---- chains

    private static int ownTrack(int note) {
        return note == -1 ? 2 : note + 3;
    }

    private static boolean isRead(State st, int note, int s) {
        int track = ownTrack(note) + st.edge[s] + st.steering[s];
        return in(track, 0, 25) && st.hole[s][track] && !st.patch[s][track];
    }

    private static List<Chain> chainsOf(State st, int note) {
        List<Chain> all = new ArrayList<>();
        Chain open = null;
        for (int s = 0; s < 96; s++) {
            if (!isRead(st, note, s)) {
                continue;
            }
            if (open == null || s - open.last - 1 > st.settings[0]) {
                open = new Chain();
                open.note = note;
                open.first = s;
                all.add(open);
            }
            open.last = s;
            open.holes++;
        }
        return all;
    }

    private static List<Chain> playedIn(State st) {
        List<Chain> all = new ArrayList<>();
        for (int n = 0; n < 20; n++) {
            all.addAll(chainsOf(st, n));
        }
        all.sort((a, b) -> a.first != b.first ? a.first - b.first : a.note - b.note);
        return all;
    }

    private List<Chain> played() {
        if (playedNow == null) {
            playedNow = playedIn(now);
        }
        return playedNow;
    }

    private List<Chain> pedal() {
        if (pedalNow == null) {
            pedalNow = chainsOf(now, -1);
        }
        return pedalNow;
    }

    private static boolean isIn(List<Chain> all, Chain c) {
        for (Chain other : all) {
            if (other.isSame(c)) {
                return true;
            }
        }
        return false;
    }

    private static int rightIn(State st) {
        int right = 0;
        for (Chain c : playedIn(st)) {
            right += isIn(st.tune, c) ? 1 : 0;
        }
        return right;
    }

    private int soundEnd(Chain c) {
        int end = c.last;
        for (Chain p : pedal()) {
            if (p.first <= c.last && c.last <= p.last) {
                end = p.last;
            }
        }
        for (Chain next : played()) {
            if (next.note == c.note && next.first > c.last && next.first - 1 < end) {
                end = next.first - 1;
            }
        }
        return end;
    }

    private boolean isPlayedAt(int s) {
        for (Chain c : played()) {
            if (in(s, c.first, c.last)) {
                return true;
            }
        }
        return false;
    }

    private boolean isWished(int s) {
        if (isPlayedAt(s)) {
            return false;
        }
        boolean before = false;
        boolean after = false;
        for (int k = 1; k <= now.settings[1]; k++) {
            before |= s - k >= 0 && isPlayedAt(s - k);
            for (Chain c : played()) {
                after |= c.first == s + k;
            }
        }
        return before && after;
    }

    private boolean isPedalDown(int s) {
        for (Chain p : pedal()) {
            if (in(s, p.first, p.last)) {
                return true;
            }
        }
        return false;
    }

    // ---- punching, patches

    private List<Integer> punched(int first, int length) {
        List<Integer> all = new ArrayList<>();
        for (int s = first; s <= first + length - 1; s += now.settings[0] + 1) {
            all.add(s);
        }
        if (!all.contains(first + length - 1)) {
            all.add(first + length - 1);
        }
        return all;
    }

    private int punchOne(int note, int first, int length) {
        int more = 0;
        for (int s : punched(first, length)) {
            more += now.hole[s][ownTrack(note)] ? 0 : 1;
            now.hole[s][ownTrack(note)] = true;
            now.patch[s][ownTrack(note)] = false;
        }
        changed();
        return more;
    }

    int punch(int note, int step, int length) {
        bounds(in(note, -1, 19) && in(step, 0, 95));
        argument(in(length, 1, 96));
        state(step + length - 1 <= 95);
        save();
        return punchOne(note, step, length);
    }

    int patch(int track, int from, int to) {
        bounds(in(track, 0, 25) && in(from, 0, 95) && in(to, 0, 95));
        argument(to >= from);
        int before = count(1);
        save();
        for (int s = from; s <= to; s++) {
            now.patch[s][track] = true;
        }
        changed();
        return before - count(1);
    }

    int peel(int track, int from, int to) {
        bounds(in(track, 0, 25) && in(from, 0, 95) && in(to, 0, 95));
        argument(to >= from);
        int before = count(2);
        save();
        for (int s = from; s <= to; s++) {
            now.patch[s][track] = false;
        }
        changed();
        return before - count(2);
    }

    int shift(int by) {
        argument(in(by, -3, 3));
        State moved = now.copy();
        for (int s = 0; s < 96; s++) {
            moved.hole[s] = new boolean[26];
            moved.patch[s] = new boolean[26];
            for (int t = 0; t < 26; t++) {
                if (now.hole[s][t] || now.patch[s][t]) {
                    state(in(t + by, 0, 25));
                    moved.hole[s][t + by] = now.hole[s][t];
                    moved.patch[s][t + by] = now.patch[s][t];
                }
            }
        }
        save();
        now = moved;
        changed();
        return count(5);
    }

    // ---- edges, steering, settings

    int tear(int from, int to, int by) {
        bounds(in(from, 0, 95) && in(to, 0, 95));
        argument(to >= from && in(by, -3, 3));
        for (int s = from; s <= to; s++) {
            state(in(now.edge[s] + by, -3, 3));
        }
        save();
        for (int s = from; s <= to; s++) {
            now.edge[s] += by;
        }
        changed();
        return count(5);
    }

    int steer(int from, int to, int by) {
        bounds(in(from, 0, 95) && in(to, 0, 95));
        argument(to >= from && in(by, -3, 3));
        save();
        for (int s = from; s <= to; s++) {
            now.steering[s] = by;
        }
        changed();
        return count(5);
    }

    int set(int setting, int value) {
        bounds(in(setting, 0, 1));
        argument(in(value, 0, setting == 0 ? 3 : 8));
        save();
        int previous = now.settings[setting];
        now.settings[setting] = value;
        changed();
        return previous;
    }

    int learn() {
        save();
        now.tune = new ArrayList<>(played());
        return now.tune.size();
    }

    // ---- texts

    int append(int code) {
        argument(in(code, 33, 126));
        state(buffer.length() < 60);
        buffer += (char) code;
        return buffer.length();
    }

    int clearBuffer() {
        int had = buffer.length();
        buffer = "";
        return had;
    }

    int firstError() {
        for (int k = 1; k <= buffer.length(); k++) {
            Matcher m = ROW.matcher(buffer.substring(0, k));
            if (!m.matches() && !m.hitEnd()) {
                return k - 1;
            }
        }
        return buffer.length();
    }

    int punchAll() {
        argument(ROW.matcher(buffer).matches());
        String[] parts = buffer.split(",");
        for (String part : parts) {
            String[] numbers = part.split("[@:]");
            state(Integer.parseInt(numbers[1]) + Integer.parseInt(numbers[2]) - 1 <= 95);
        }
        save();
        int more = 0;
        for (String part : parts) {
            String[] numbers = part.split("[@:]");
            int note = numbers[0].equals("p") ? -1 : Integer.parseInt(numbers[0]);
            more += punchOne(note, Integer.parseInt(numbers[1]), Integer.parseInt(numbers[2]));
        }
        buffer = "";
        return more;
    }

    int undo() {
        state(!saved.isEmpty());
        now = saved.remove(saved.size() - 1);
        changed();
        return saved.size();
    }

    // ---- what there is

    int place(int step, int track, int what) {
        bounds(in(step, 0, 95) && in(track, 0, 25));
        argument(in(what, 0, 2));
        if (what < 2) {
            return (what == 0 ? now.hole : now.patch)[step][track] ? 1 : 0;
        }
        for (int n = -1; n < 20; n++) {
            if (ownTrack(n) + now.edge[step] + now.steering[step] == track) {
                return n == -1 ? -2 : n;
            }
        }
        return -1;
    }

    int step(int step, int what) {
        bounds(in(step, 0, 95));
        argument(in(what, 0, 6));
        int mask = 0;
        switch (what) {
            case 0:
                return now.edge[step];
            case 1:
                return now.steering[step];
            case 2:
            case 3:
                for (Chain c : played()) {
                    if (in(step, c.first, what == 2 ? c.last : soundEnd(c))) {
                        mask |= 1 << c.note;
                    }
                }
                return mask;
            case 4:
                return isPedalDown(step) ? 1 : 0;
            case 5:
                return isWished(step) ? 1 : 0;
            default:
                for (int t = 0; t < 26; t++) {
                    mask |= now.hole[step][t] && !now.patch[step][t] ? 1 << t : 0;
                }
                return mask;
        }
    }

    int played(int place, int what) {
        bounds(in(place, 0, played().size() - 1));
        argument(in(what, 0, 5));
        Chain c = played().get(place);
        int[] numbers = {c.note, c.first, c.last, soundEnd(c), c.holes, isIn(now.tune, c) ? 1 : 0};
        return numbers[what];
    }

    int tune(int place, int what) {
        bounds(in(place, 0, now.tune.size() - 1));
        argument(in(what, 0, 3));
        Chain c = now.tune.get(place);
        int[] numbers = {c.note, c.first, c.last, isIn(played(), c) ? 0 : 1};
        return numbers[what];
    }

    int count(int what) {
        argument(in(what, 0, 14));
        switch (what) {
            case 0:
            case 1:
            case 2:
                return placesCounted(what);
            case 3:
                return played().size();
            case 4:
                return now.tune.size();
            case 5:
            case 6:
            case 11:
                return playedCounted(what);
            case 7:
                int missing = 0;
                for (Chain c : now.tune) {
                    missing += isIn(played(), c) ? 0 : 1;
                }
                return missing;
            case 8:
                return pedal().size();
            case 14:
                return saved.size();
            default:
                return stepsCounted(what);
        }
    }

    private int placesCounted(int what) {
        int sum = 0;
        for (int s = 0; s < 96; s++) {
            for (int t = 0; t < 26; t++) {
                boolean hole = now.hole[s][t];
                boolean patch = now.patch[s][t];
                sum += (what == 0 ? hole : what == 1 ? hole && !patch : patch) ? 1 : 0;
            }
        }
        return sum;
    }

    private int playedCounted(int what) {
        int right = 0;
        int wrong = 0;
        int wrongHoles = 0;
        for (Chain c : played()) {
            if (isIn(now.tune, c)) {
                right++;
            } else {
                wrong++;
                wrongHoles += c.holes;
            }
        }
        return what == 5 ? right : what == 6 ? wrong : wrongHoles;
    }

    private int stepsCounted(int what) {
        int sum = 0;
        for (int s = 0; s < 96; s++) {
            if (what == 9) {
                sum += isPedalDown(s) ? 1 : 0;
            } else if (what == 10) {
                sum += isWished(s) ? 1 : 0;
            } else if (what == 13) {
                sum += now.edge[s] != 0 ? 1 : 0;
            } else {
                for (int t = 0; t < 26; t++) {
                    boolean open = now.hole[s][t] && !now.patch[s][t];
                    sum += open && place(s, t, 2) == -1 ? 1 : 0;
                }
            }
        }
        return sum;
    }

    int setting(int setting) {
        bounds(in(setting, 0, 1));
        return now.settings[setting];
    }

    // ---- what would be

    int bestSteer(int from, int to, int what) {
        bounds(in(from, 0, 95) && in(to, 0, 95));
        argument(to >= from && in(what, 0, 1));
        int[] right = new int[7];
        int most = 0;
        for (int v = -3; v <= 3; v++) {
            State other = now.copy();
            for (int s = from; s <= to; s++) {
                other.steering[s] = v;
            }
            right[v + 3] = rightIn(other);
            most = Math.max(most, right[v + 3]);
        }
        int best = 9;
        for (int v = -3; v <= 3; v++) {
            if (right[v + 3] == most && Math.abs(v) < Math.abs(best)) {
                best = v;
            }
        }
        return what == 0 ? best : most;
    }

    int bestBridge() {
        int best = 0;
        int most = -1;
        for (int v = 0; v <= 3; v++) {
            State other = now.copy();
            other.settings[0] = v;
            int right = rightIn(other);
            if (right > most) {
                most = right;
                best = v;
            }
        }
        return best;
    }

    int bestBreak(int by, int what) {
        argument(in(by, -3, 3) && in(what, 0, 1));
        int best = 0;
        int most = -1;
        for (int k = 0; k < 96; k++) {
            State other = now.copy();
            for (int s = k; s < 96; s++) {
                int v = other.steering[s] + by;
                other.steering[s] = v < -3 ? -3 : v > 3 ? 3 : v;
            }
            int right = rightIn(other);
            if (right > most) {
                most = right;
                best = k;
            }
        }
        return what == 0 ? best : most;
    }

    int holesFor(int length) {
        argument(in(length, 1, 96));
        return punched(0, length).size();
    }

    double tuneShare() {
        return count(4) == 0 ? 0.0 : (double) count(5) / count(4);
    }

    long digest() {
        List<Long> values = new ArrayList<>();
        for (int what = 0; what <= 14; what++) {
            values.add((long) count(what));
        }
        values.add((long) setting(0));
        values.add((long) setting(1));
        for (int s = 0; s < 96; s++) {
            for (int what = 0; what <= 6; what++) {
                values.add((long) step(s, what));
            }
        }
        for (int i = 0; i < count(3); i++) {
            for (int what = 0; what <= 5; what++) {
                values.add((long) played(i, what));
            }
        }
        for (int i = 0; i < count(4); i++) {
            for (int what = 0; what <= 3; what++) {
                values.add((long) tune(i, what));
            }
        }
        int[][] spans = {{0, 95}, {0, 47}, {48, 95}};
        for (int[] span : spans) {
            values.add((long) bestSteer(span[0], span[1], 0));
            values.add((long) bestSteer(span[0], span[1], 1));
        }
        values.add((long) bestBridge());
        values.add((long) bestBreak(1, 0));
        values.add((long) bestBreak(1, 1));
        values.add((long) bestBreak(-1, 0));
        values.add((long) bestBreak(-1, 1));
        values.add(Double.doubleToLongBits(tuneShare()));
        values.add((long) buffer.length());
        for (char c : buffer.toCharArray()) {
            values.add((long) c);
        }
        long hash = 2371;
        for (long v : values) {
            hash = 31 * hash + v;
        }
        return hash;
    }
}
