/** Promises 15 to 20: place, step, played, tune, count, setting. */
public final class LookTest {
    private static final Due DUE = new Due("LookTest");
    private static final int LOW = Integer.MIN_VALUE;
    private static final int HIGH = Integer.MAX_VALUE;
    private static final int[] STEPS = {-1, 96, LOW, HIGH};
    private static final Script EMPTY = new Script();
    // 48 chains of the pedal and of each note, at each second step.
    private static final Script MOST_CHAINS = mostChains();

    private static Script mostChains() {
        Script run = EMPTY;
        for (int note = -1; note <= 19; note++) {
            int n = note;
            run = run.then(x -> x.punch(n, 0, 95));
        }
        return run.then(x -> x.set(0, 0));
    }

    private static String readTracks(RollPunch x, int step) {
        StringBuilder row = new StringBuilder();
        for (int t = 0; t < 26; t++) {
            row.append(t > 0 ? " " : "").append(x.place(step, t, 2));
        }
        return row.toString();
    }

    private static void place() {
        RollPunch x = new RollPunch();
        x.tear(1, 1, 3);
        x.steer(2, 2, -3);
        x.tear(3, 3, 3);
        x.steer(3, 3, 3);
        x.tear(4, 4, -3);
        x.steer(4, 4, -3);
        DUE.is("read at 0", readTracks(x, 0), "-1 -1 -2 0 1 2 3 4 5 6 7 8 9 10 11 12 13 14 15 16 17 18 19 -1 -1 -1");
        DUE.is("read at 1", readTracks(x, 1), "-1 -1 -1 -1 -1 -2 0 1 2 3 4 5 6 7 8 9 10 11 12 13 14 15 16 17 18 19");
        DUE.is("read at 2", readTracks(x, 2), "0 1 2 3 4 5 6 7 8 9 10 11 12 13 14 15 16 17 18 19 -1 -1 -1 -1 -1 -1");
        DUE.is("read at 3", readTracks(x, 3), "-1 -1 -1 -1 -1 -1 -1 -1 -2 0 1 2 3 4 5 6 7 8 9 10 11 12 13 14 15 16");
        DUE.is("read at 4",
                readTracks(x, 4), "3 4 5 6 7 8 9 10 11 12 13 14 15 16 17 18 19 -1 -1 -1 -1 -1 -1 -1 -1 -1");
        x.punch(0, 4, 2);
        x.patch(3, 5, 6);
        DUE.is("holes", x.place(4, 3, 0) + " " + x.place(5, 3, 0) + " " + x.place(6, 3, 0), "1 1 0");
        DUE.is("patches", x.place(4, 3, 1) + " " + x.place(5, 3, 1) + " " + x.place(6, 3, 1), "0 1 1");
        for (int k : STEPS) {
            DUE.bounds("place(" + k + ", 0, 0)", () -> x.place(k, 0, 0));
            DUE.bounds("place(" + k + ", 0, 3)", () -> x.place(k, 0, 3));
        }
        int[] tracks = {-1, 26, LOW, HIGH};
        for (int k : tracks) {
            DUE.bounds("place(0, " + k + ", 0)", () -> x.place(0, k, 0));
            DUE.bounds("place(0, " + k + ", 3)", () -> x.place(0, k, 3));
        }
        int[] whats = {-1, 3, LOW, HIGH};
        for (int k : whats) {
            DUE.argument("place(0, 0, " + k + ")", () -> x.place(0, 0, k));
        }
    }

    private static void step() {
        RollPunch x = new RollPunch();
        x.punch(0, 2, 3);
        x.punch(19, 4, 1);
        x.punch(RollPunch.NONE, 3, 5);
        x.punch(1, 10, 2);
        x.patch(22, 9, 9);
        DUE.is("played notes", Due.steps(x, 2, 0, 12), "0 0 1 1 524289 0 0 0 0 0 2 2 0");
        DUE.is("sounding notes", Due.steps(x, 3, 0, 12), "0 0 1 1 524289 524289 524289 524289 0 0 2 2 0");
        DUE.is("pedal", Due.steps(x, 4, 0, 12), "0 0 0 1 1 1 1 1 0 0 0 0 0");
        DUE.is("wished", Due.steps(x, 5, 0, 12), "0 0 0 0 0 0 0 0 0 0 0 0 0");
        x.set(1, 3);
        DUE.is("wished, 3", Due.steps(x, 5, 0, 12), "0 0 0 0 0 0 0 1 0 0 0 0 0");
        x.set(1, 4);
        DUE.is("wished, 4", Due.steps(x, 5, 0, 12), "0 0 0 0 0 0 1 1 1 0 0 0 0");
        x.set(1, 5);
        DUE.is("wished, 5", Due.steps(x, 5, 0, 12), "0 0 0 0 0 1 1 1 1 1 0 0 0");
        DUE.is("open holes", Due.steps(x, 6, 0, 12), "0 0 8 4 4194312 4 0 4 0 0 16 16 0");
        x.patch(22, 4, 4);
        DUE.is("open holes", x.step(4, 6), 8);
        x.tear(4, 5, -1);
        x.steer(5, 6, 2);
        DUE.is("edges", Due.steps(x, 0, 3, 7), "0 -1 -1 0 0");
        DUE.is("steering", Due.steps(x, 1, 3, 7), "0 0 2 2 0");
        for (int k : STEPS) {
            DUE.bounds("step(" + k + ", 0)", () -> x.step(k, 0));
            DUE.bounds("step(" + k + ", 7)", () -> x.step(k, 7));
        }
        int[] whats = {-1, 7, LOW, HIGH};
        for (int k : whats) {
            DUE.argument("step(95, " + k + ")", () -> x.step(95, k));
        }
    }

    private static void wishedAtTheBorders() {
        RollPunch x = new RollPunch();
        x.set(1, 8);
        x.punch(0, 1, 1);
        DUE.is("count(10)", x.count(10), 0);
        x.punch(3, 94, 1);
        DUE.is("count(10)", x.count(10), 0);
        x.punch(0, 9, 1);
        DUE.is("wished", Due.steps(x, 5, 0, 10), "0 0 1 1 1 1 1 1 1 0 0");
        RollPunch first = new RollPunch();
        first.punch(0, 0, 1);
        first.punch(0, 3, 1);
        first.punch(1, 93, 1);
        first.punch(0, 95, 1);
        DUE.is("wished after step 0", Due.steps(first, 5, 0, 4), "0 1 1 0 0");
        DUE.is("wished before step 95", Due.steps(first, 5, 92, 95), "0 0 1 0");
        x.punch(4, 85, 9);
        DUE.is("wished", Due.steps(x, 5, 76, 95), "0 0 0 0 0 0 0 0 0 0 0 0 0 0 0 0 0 0 0 0");
        x.set(1, 1);
        DUE.is("count(10)", x.count(10), 0);
        x.punch(0, 3, 1);
        DUE.is("one chain by the bridge", x.count(10), 0);
        x.set(0, 0);
        DUE.is("wished, 1", Due.steps(x, 5, 0, 10), "0 0 1 0 0 0 0 0 0 0 0");
        x.set(1, 0);
        DUE.is("count(10)", x.count(10), 0);
    }

    private static void sounding() {
        RollPunch x = new RollPunch();
        x.punch(0, 10, 3);
        x.punch(0, 20, 3);
        x.punch(RollPunch.NONE, 12, 18);
        x.punch(5, 15, 1);
        x.punch(6, 29, 1);
        x.punch(7, 27, 6);
        x.punch(8, 2, 1);
        DUE.is("played", Due.played(x), "8 2 2 2 1 0, 0 10 12 19 2 0, 5 15 15 29 1 0, 0 20 22 29 2 0, "
                + "7 27 32 32 4 0, 6 29 29 29 1 0");
        DUE.is("sounding", Due.steps(x, 3, 18, 31), "33 33 33 33 33 33 33 33 33 161 161 225 128 128");
        x.patch(2, 21, 21);
        x.patch(2, 22, 22);
        DUE.is("the pedal's chains", x.count(8), 2);
        DUE.is("a chain of its own", Due.played(x), "8 2 2 2 1 0, 0 10 12 19 2 0, 5 15 15 20 1 0, 0 20 22 22 2 0, "
                + "7 27 32 32 4 0, 6 29 29 29 1 0");
        x.punch(RollPunch.NONE, 90, 6);
        x.punch(11, 91, 1);
        DUE.is("to the end", x.played(6, 3), 95);
        x.punch(11, 95, 1);
        DUE.is("to the next chain", x.played(6, 3), 94);
        x.punch(11, 93, 1);
        DUE.is("in one chain", x.played(6, 2) + " " + x.played(6, 3) + " " + x.played(6, 4), "95 95 3");
    }

    private static void soundingAtTheBorders() {
        RollPunch x = new RollPunch();
        x.punch(3, 0, 1);
        x.punch(RollPunch.NONE, 0, 3);
        x.punch(4, 95, 1);
        x.punch(RollPunch.NONE, 95, 1);
        DUE.is("played", Due.played(x), "3 0 0 2 1 0, 4 95 95 95 1 0");
        DUE.is("played at the first ones", Due.steps(x, 2, 0, 3), "8 0 0 0");
        DUE.is("sounding at the first ones", Due.steps(x, 3, 0, 3), "8 8 8 0");
        DUE.is("pedal at the first ones", Due.steps(x, 4, 0, 3), "1 1 1 0");
        DUE.is("played at the last ones", Due.steps(x, 2, 94, 95), "0 16");
        DUE.is("sounding at the last ones", Due.steps(x, 3, 94, 95), "0 16");
        DUE.is("pedal at the last ones", Due.steps(x, 4, 94, 95), "0 1");
        DUE.is("chains of the pedal", x.count(8), 2);
        DUE.is("steps of the pedal", x.count(9), 4);
    }

    private static void chains() {
        RollPunch x = new RollPunch();
        int[] steps = {0, 1, 4, 8, 13, 95};
        for (int s : steps) {
            x.punch(9, s, 1);
        }
        String[] spans = {"9 0 1 1 2 0, 9 4 4 4 1 0, 9 8 8 8 1 0, 9 13 13 13 1 0, 9 95 95 95 1 0",
            "9 0 1 1 2 0, 9 4 4 4 1 0, 9 8 8 8 1 0, 9 13 13 13 1 0, 9 95 95 95 1 0",
            "9 0 4 4 3 0, 9 8 8 8 1 0, 9 13 13 13 1 0, 9 95 95 95 1 0",
            "9 0 8 8 4 0, 9 13 13 13 1 0, 9 95 95 95 1 0"};
        for (int bridge = 0; bridge <= 3; bridge++) {
            x.set(0, bridge);
            DUE.is("bridge " + bridge, Due.played(x), spans[bridge]);
        }
        x.steer(1, 1, 1);
        DUE.is("a hole aside", Due.played(x), "9 0 8 8 3 0, 8 1 1 1 1 0, 9 13 13 13 1 0, 9 95 95 95 1 0");
    }

    private static void played() {
        RollPunch x = new RollPunch();
        x.punch(5, 10, 4);
        x.punch(3, 10, 1);
        x.punch(19, 2, 1);
        x.learn();
        x.punch(0, 50, 2);
        x.punch(3, 11, 1);
        DUE.is("played", Due.played(x), "19 2 2 2 1 1, 3 10 11 11 2 0, 5 10 13 13 3 1, 0 50 51 51 2 0");
        int[] places = {-1, 4, 5, LOW, HIGH};
        for (int k : places) {
            DUE.bounds("played(" + k + ", 0)", () -> x.played(k, 0));
            DUE.bounds("played(" + k + ", 6)", () -> x.played(k, 6));
        }
        int[] whats = {-1, 6, LOW, HIGH};
        for (int k : whats) {
            DUE.argument("played(3, " + k + ")", () -> x.played(3, k));
        }
    }

    private static void tune() {
        RollPunch x = new RollPunch();
        x.punch(5, 10, 4);
        x.punch(3, 10, 1);
        x.punch(3, 20, 1);
        x.learn();
        DUE.is("tune", Due.tune(x), "3 10 10 0, 5 10 13 0, 3 20 20 0");
        x.patch(8, 13, 13);
        x.patch(6, 10, 10);
        DUE.is("tune", Due.tune(x), "3 10 10 1, 5 10 13 1, 3 20 20 0");
        int[] places = {-1, 3, LOW, HIGH};
        for (int k : places) {
            DUE.bounds("tune(" + k + ", 0)", () -> x.tune(k, 0));
            DUE.bounds("tune(" + k + ", 4)", () -> x.tune(k, 4));
        }
        int[] whats = {-1, 4, LOW, HIGH};
        for (int k : whats) {
            DUE.argument("tune(2, " + k + ")", () -> x.tune(2, k));
        }
    }

    private static void count() {
        RollPunch x = new RollPunch();
        x.punch(0, 4, 6);
        x.punch(3, 6, 1);
        x.punch(0, 12, 5);
        x.punch(RollPunch.NONE, 8, 6);
        x.learn();
        DUE.is("counts", Due.counts(x), "12 12 0 3 3 3 0 0 1 6 2 0 0 0 5");
        x.patch(3, 12, 13);
        DUE.is("counts", Due.counts(x), "12 11 2 3 3 2 1 1 1 6 0 2 0 0 6");
        x.tear(6, 6, 1);
        DUE.is("counts", Due.counts(x), "12 11 2 4 3 0 4 3 1 8 2 6 0 1 6");
        x.shift(3);
        DUE.is("counts", Due.counts(x), "12 11 2 5 3 0 5 3 0 0 1 11 0 1 6");
        x.steer(0, 95, 3);
        x.tear(12, 16, 3);
        DUE.is("open holes that are not read", x.count(12), 4);
        x.steer(12, 16, -1);
        x.tear(0, 95, 0);
        DUE.is("counts", Due.counts(x), "12 11 2 5 3 0 5 3 1 5 4 8 0 6 6");
        int[] whats = {-1, 15, LOW, HIGH};
        for (int k : whats) {
            DUE.argument("count(" + k + ")", () -> x.count(k));
        }
    }

    private static void notRead() {
        RollPunch x = new RollPunch();
        x.punch(0, 0, 1);
        x.punch(RollPunch.NONE, 0, 1);
        x.punch(19, 0, 1);
        x.patch(22, 0, 0);
        x.tear(0, 0, 2);
        DUE.is("count(12)", x.count(12), 2);
        x.steer(0, 0, -3);
        DUE.is("count(12)", x.count(12), 0);
        DUE.is("count(11)", x.count(11), 2);
        x.peel(22, 0, 0);
        DUE.is("count(12)", x.count(12), 1);
    }

    private static void setting() {
        RollPunch x = new RollPunch();
        x.set(0, 3);
        x.set(1, 7);
        DUE.is("setting(0)", x.setting(0), 3);
        DUE.is("setting(1)", x.setting(1), 7);
        int[] settings = {-1, 2, LOW, HIGH};
        for (int k : settings) {
            DUE.bounds("setting(" + k + ")", () -> x.setting(k));
        }
    }

    // "As a bit mask": the first and the last bit, and all of them.
    private static void masks() {
        Script low = EMPTY.then(x -> x.punch(0, 10, 1), x -> x.punch(RollPunch.NONE, 10, 2));
        Script high = EMPTY.then(x -> x.punch(19, 10, 1), x -> x.punch(RollPunch.NONE, 10, 2));
        for (int what = 2; what <= 3; what++) {
            int w = what;
            DUE.is("step(10, " + w + ") of note 0", low.ask(x -> x.step(10, w)), 1);
            DUE.is("step(10, " + w + ") of note 19", high.ask(x -> x.step(10, w)), 1 << 19);
            DUE.is("step(11, " + w + ") of note 0", low.ask(x -> x.step(11, w)), w == 2 ? 0 : 1);
            DUE.is("step(11, " + w + ") of note 19", high.ask(x -> x.step(11, w)), w == 2 ? 0 : 1 << 19);
            DUE.is("step(0, " + w + ") of all", MOST_CHAINS.ask(x -> x.step(0, w)), (1 << 20) - 1);
            DUE.is("step(94, " + w + ") of all", MOST_CHAINS.ask(x -> x.step(94, w)), (1 << 20) - 1);
            DUE.is("step(93, " + w + ") of none", MOST_CHAINS.ask(x -> x.step(93, w)), 0);
            DUE.is("step(95, " + w + ") of none", MOST_CHAINS.ask(x -> x.step(95, w)), 0);
        }
        DUE.is("step(0, 6) of all own tracks", MOST_CHAINS.ask(x -> x.step(0, 6)), (1 << 23) - 4);
        DUE.is("step(1, 6)", MOST_CHAINS.ask(x -> x.step(1, 6)), 0);
        DUE.is("step(0, 6) further", MOST_CHAINS.then(x -> x.shift(3)).ask(x -> x.step(0, 6)), (1 << 26) - 32);
        DUE.is("step(0, 6) lower", MOST_CHAINS.then(x -> x.shift(-2)).ask(x -> x.step(0, 6)), (1 << 21) - 1);
    }

    // "The steps at which a note is played" include those between its holes.
    private static void playedBetweenHoles() {
        Script run = EMPTY.then(x -> x.set(0, 3), x -> x.punch(4, 0, 96), x -> x.punch(RollPunch.NONE, 50, 5));
        for (int step = 0; step < 96; step++) {
            int s = step;
            DUE.is("step(" + s + ", 2)", run.ask(x -> x.step(s, 2)), 16);
            DUE.is("step(" + s + ", 3)", run.ask(x -> x.step(s, 3)), 16);
            DUE.is("step(" + s + ", 4)", run.ask(x -> x.step(s, 4)), s >= 50 && s <= 54 ? 1 : 0);
        }
    }

    // "How many open holes it has": from one to one at each step, without those below patches or aside.
    private static void holesOfNotes() {
        Script row = EMPTY.then(x -> x.set(0, 0), x -> x.punch(4, 0, 96), x -> x.set(0, 3));
        DUE.is("all steps", row.ask(x -> x.played(0, 4)), 96);
        DUE.is("one below a patch", row.then(x -> x.patch(7, 40, 40)).ask(x -> x.played(0, 4)), 95);
        DUE.is("three below patches", row.then(x -> x.patch(7, 40, 42)).ask(x -> x.played(0, 4)), 93);
        DUE.is("three aside", row.then(x -> x.steer(40, 42, -1)).ask(x -> x.played(0, 4)), 93);
        DUE.is("the note that they are of", row.then(x -> x.steer(40, 42, -1)).ask(x -> x.played(1, 0)), 5);
        DUE.is("four below patches, before", row.then(x -> x.patch(7, 40, 43)).ask(x -> x.played(0, 4)), 40);
        DUE.is("four below patches, behind", row.then(x -> x.patch(7, 40, 43)).ask(x -> x.played(1, 4)), 52);
        DUE.is("the last step alone", row.then(x -> x.patch(7, 0, 94)).ask(x -> x.played(0, 4)), 1);
        DUE.is("the first step alone", row.then(x -> x.patch(7, 1, 95)).ask(x -> x.played(0, 4)), 1);
        DUE.is("none", row.then(x -> x.patch(7, 0, 95)).ask(x -> x.count(3)), 0);
    }

    // The most notes and chains that there can be.
    private static void mostOfAll() {
        DUE.is("counts", Due.counts(MOST_CHAINS.then(x -> x.learn()).play()),
                "1008 1008 0 960 960 960 0 0 48 48 47 0 0 0 6");
        DUE.is("counts of a tune of nothing", Due.counts(MOST_CHAINS.play()),
                "1008 1008 0 960 0 0 960 0 48 48 47 960 0 0 6");
        Script last = MOST_CHAINS.then(x -> x.learn());
        DUE.is("played(959, 0)", last.ask(x -> x.played(959, 0)), 19);
        DUE.is("played(959, 1)", last.ask(x -> x.played(959, 1)), 94);
        DUE.is("played(940, 0)", last.ask(x -> x.played(940, 0)), 0);
        DUE.is("played(939, 1)", last.ask(x -> x.played(939, 1)), 92);
        DUE.is("tune(959, 2)", last.ask(x -> x.tune(959, 2)), 94);
        DUE.is("tune(940, 0)", last.ask(x -> x.tune(940, 0)), 0);
        RollPunch x = last.play();
        DUE.bounds("played(960, 0)", () -> x.played(960, 0));
        DUE.bounds("tune(960, 0)", () -> x.tune(960, 0));
        DUE.is("two notes beyond what is read", last.then(y -> y.shift(1), y -> y.shift(-3)).ask(y -> y.count(7)), 96);
        DUE.is("three notes, then two beyond", last.then(y -> y.steer(0, 47, 3), y -> y.steer(48, 95, -3))
                .ask(y -> y.count(5)), 17 * 24 + 18 * 24);
    }

    // "Steps at which it would be wished": the most are all but two.
    private static void mostWished() {
        Script wide = EMPTY.then(x -> x.set(1, 8), x -> x.set(0, 0));
        for (int step = 0; step < 95; step += 9) {
            int s = step;
            wide = wide.then(x -> x.punch(7, s, 1));
        }
        Script run = wide.then(x -> x.punch(7, 95, 1));
        DUE.is("count(10)", run.ask(x -> x.count(10)), 96 - 12);
        DUE.is("a step without it", run.ask(x -> x.step(90, 5)), 0);
        DUE.is("a step with it", run.ask(x -> x.step(94, 5)), 1);
        DUE.is("count(10) of a reach of 7", run.then(x -> x.set(1, 7)).ask(x -> x.count(10)), 10 * 6 + 4);
    }

    // "Open holes that are not read": each track that no note is read from, at each step.
    private static void holesNotRead() {
        for (int track = 0; track < 26; track++) {
            int t = track;
            int note = Math.max(-1, Math.min(19, t - 3));
            int by = t - (note == -1 ? 2 : note + 3);
            Script run = EMPTY.then(x -> x.punch(note, 33, 1), x -> x.shift(by));
            DUE.is("place(33, " + t + ", 0)", run.ask(x -> x.place(33, t, 0)), 1);
            for (int aside = -3; aside <= 3; aside++) {
                int a = aside;
                int own = t - 2 * a;
                Script read = run.then(x -> x.tear(33, 33, a), x -> x.steer(33, 33, a));
                DUE.is("count(12), track " + t + ", aside " + 2 * a, read.ask(x -> x.count(12)),
                        own >= 2 && own <= 22 ? 0 : 1);
                DUE.is("count(12) below a patch", read.then(x -> x.patch(t, 33, 33)).ask(x -> x.count(12)), 0);
            }
        }
    }

    // "Open holes of wrong notes": neither those of right ones nor those of the pedal.
    private static void holesOfWrongNotes() {
        Script two = EMPTY.then(x -> x.punch(3, 0, 5), x -> x.punch(4, 91, 5), x -> x.punch(RollPunch.NONE, 40, 9));
        DUE.is("without a tune", two.ask(x -> x.count(11)), 6);
        Script learned = two.then(x -> x.learn());
        DUE.is("of right ones", learned.ask(x -> x.count(11)), 0);
        DUE.is("the first one longer", learned.then(x -> x.punch(3, 5, 1)).ask(x -> x.count(11)), 4);
        DUE.is("the last one shorter", learned.then(x -> x.patch(7, 95, 95)).ask(x -> x.count(11)), 2);
        DUE.is("in two parts", learned.then(x -> x.set(0, 0)).ask(x -> x.count(11)), 6);
        DUE.is("one more", learned.then(x -> x.punch(19, 95, 1)).ask(x -> x.count(11)), 1);
        DUE.is("none is played", learned.then(x -> x.patch(6, 0, 95), x -> x.patch(7, 0, 95))
                .ask(x -> x.count(11)), 0);
    }

    public static void main(String[] args) {
        place();
        step();
        masks();
        playedBetweenHoles();
        wishedAtTheBorders();
        mostWished();
        sounding();
        soundingAtTheBorders();
        chains();
        played();
        holesOfNotes();
        tune();
        count();
        mostOfAll();
        notRead();
        holesNotRead();
        holesOfWrongNotes();
        setting();
        DUE.end();
    }
}
