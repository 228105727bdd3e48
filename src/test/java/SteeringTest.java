/** Promises 6 to 9: tear, steer, set, learn. */
public final class SteeringTest {
    private static final Due DUE = new Due("SteeringTest");
    private static final int LOW = Integer.MIN_VALUE;
    private static final int HIGH = Integer.MAX_VALUE;

    private static RollPunch threeNotes() {
        RollPunch x = new RollPunch();
        x.punch(0, 10, 3);
        x.punch(0, 20, 3);
        x.punch(7, 30, 3);
        x.learn();
        return x;
    }

    private static void tear() {
        RollPunch x = threeNotes();
        DUE.is("tear(0, 15, 1)", x.tear(0, 15, 1), 2);
        DUE.is("edges", Due.steps(x, 0, 14, 17), "1 1 0 0");
        DUE.is("count(13)", x.count(13), 16);
        DUE.is("tear(15, 30, -2)", x.tear(15, 30, -2), 0);
        DUE.is("edges", Due.steps(x, 0, 14, 17), "1 -1 -2 -2");
        DUE.is("edges", Due.steps(x, 0, 29, 32), "-2 -2 0 0");
        DUE.is("tear(15, 30, 2)", x.tear(15, 30, 2), 2);
        DUE.is("tear(0, 15, -1)", x.tear(0, 15, -1), 3);
        DUE.is("count(13)", x.count(13), 0);
        DUE.is("tear(0, 95, 0)", x.tear(0, 95, 0), 3);
        DUE.is("tear(95, 95, 3)", x.tear(95, 95, 3), 3);
        DUE.state("tear(95, 95, 1)", () -> x.tear(95, 95, 1));
        DUE.state("tear(0, 95, 1)", () -> x.tear(0, 95, 1));
        DUE.is("edges", Due.steps(x, 0, 93, 95), "0 0 3");
        DUE.is("tear(95, 95, -3)", x.tear(95, 95, -3), 3);
        DUE.is("tear(0, 0, -3)", x.tear(0, 0, -3), 3);
        DUE.state("tear(0, 5, -1)", () -> x.tear(0, 5, -1));
        DUE.is("count(13)", x.count(13), 1);
        DUE.is("undo()", x.undo(), 5);
        DUE.is("step(0, 0)", x.step(0, 0), 0);
    }

    private static void tearErrors() {
        RollPunch x = threeNotes();
        x.tear(5, 5, 3);
        long before = x.digest();
        int[] steps = {-1, 96, LOW, HIGH};
        int[] beyond = {-4, 4, LOW, HIGH};
        for (int k : steps) {
            DUE.bounds("tear(" + k + ", 5, 0)", () -> x.tear(k, 5, 0));
            DUE.bounds("tear(5, " + k + ", 9)", () -> x.tear(5, k, 9));
            DUE.bounds("steer(" + k + ", 5, 0)", () -> x.steer(k, 5, 0));
            DUE.bounds("steer(5, " + k + ", 9)", () -> x.steer(5, k, 9));
        }
        for (int k : beyond) {
            DUE.argument("tear(5, 5, " + k + ")", () -> x.tear(5, 5, k));
            DUE.argument("steer(5, 5, " + k + ")", () -> x.steer(5, 5, k));
        }
        DUE.argument("tear(6, 5, 1)", () -> x.tear(6, 5, 1));
        DUE.argument("tear(95, 0, 0)", () -> x.tear(95, 0, 0));
        DUE.argument("steer(6, 5, 1)", () -> x.steer(6, 5, 1));
        DUE.state("tear(0, 95, 3)", () -> x.tear(0, 95, 3));
        DUE.is("digest()", x.digest(), before);
    }

    private static void steer() {
        RollPunch x = threeNotes();
        DUE.is("steer(0, 15, 1)", x.steer(0, 15, 1), 2);
        DUE.is("steering", Due.steps(x, 1, 14, 17), "1 1 0 0");
        DUE.is("steer(0, 15, 1) again", x.steer(0, 15, 1), 2);
        DUE.is("steering", Due.steps(x, 1, 14, 17), "1 1 0 0");
        DUE.is("count(13)", x.count(13), 0);
        DUE.is("steer(21, 95, -3)", x.steer(21, 95, -3), 0);
        DUE.is("played", Due.played(x), "0 20 20 20 1 0, 3 22 22 22 1 0, 10 30 32 32 2 0");
        DUE.is("tear(21, 95, 3)", x.tear(21, 95, 3), 2);
        DUE.is("tear(0, 15, -1)", x.tear(0, 15, -1), 3);
        DUE.is("steer(95, 95, 3)", x.steer(95, 95, 3), 3);
        DUE.is("steer(0, 95, 0)", x.steer(0, 95, 0), 0);
        DUE.is("undo()", x.undo(), 5);
        DUE.is("count(5)", x.count(5), 3);
        DUE.is("step(95, 1)", x.step(95, 1), 3);
    }

    private static void readBesideTheTracks() {
        RollPunch x = new RollPunch();
        x.punch(19, 0, 1);
        x.shift(3);
        x.tear(0, 0, 3);
        DUE.is("track 25 is that of note 19", Due.played(x), "19 0 0 0 1 0");
        x.steer(0, 0, 1);
        DUE.is("track 25 is that of note 18", Due.played(x), "18 0 0 0 1 0");
        x.steer(0, 0, 3);
        DUE.is("track 25 is that of note 16", Due.played(x), "16 0 0 0 1 0");
        RollPunch y = new RollPunch();
        y.punch(RollPunch.NONE, 0, 1);
        y.punch(3, 0, 1);
        y.shift(-2);
        y.tear(0, 0, -3);
        DUE.is("track 0 is that of note 0", Due.played(y), "0 0 0 0 1 0, 4 0 0 0 1 0");
        y.steer(0, 0, -3);
        DUE.is("track 0 is that of note 3", Due.played(y), "3 0 0 0 1 0, 7 0 0 0 1 0");
        DUE.is("no track of the pedal", y.step(0, 4), 0);
    }

    private static void set() {
        RollPunch x = new RollPunch();
        x.punch(0, 10, 1);
        x.punch(0, 13, 1);
        DUE.is("count(3)", x.count(3), 2);
        DUE.is("set(0, 2)", x.set(0, 2), 1);
        DUE.is("played", Due.played(x), "0 10 13 13 2 0");
        DUE.is("set(0, 0)", x.set(0, 0), 2);
        DUE.is("set(0, 3)", x.set(0, 3), 0);
        DUE.is("setting(0)", x.setting(0), 3);
        DUE.is("setting(1)", x.setting(1), 2);
        DUE.is("set(1, 8)", x.set(1, 8), 2);
        DUE.is("set(1, 0)", x.set(1, 0), 8);
        DUE.is("setting(1)", x.setting(1), 0);
        DUE.is("setting(0)", x.setting(0), 3);
        DUE.is("undo()", x.undo(), 5);
        DUE.is("setting(1)", x.setting(1), 8);
        DUE.is("undo()", x.undo(), 4);
        DUE.is("setting(1)", x.setting(1), 2);
        DUE.is("undo()", x.undo(), 3);
        DUE.is("setting(0)", x.setting(0), 0);
        DUE.is("count(3)", x.count(3), 2);
        int[] settings = {-1, 2, LOW, HIGH};
        for (int k : settings) {
            DUE.bounds("set(" + k + ", 0)", () -> x.set(k, 0));
            DUE.bounds("set(" + k + ", 99)", () -> x.set(k, 99));
        }
        int[] values = {-1, 4, LOW, HIGH};
        for (int k : values) {
            DUE.argument("set(0, " + k + ")", () -> x.set(0, k));
        }
        DUE.argument("set(1, -1)", () -> x.set(1, -1));
        DUE.argument("set(1, 9)", () -> x.set(1, 9));
        DUE.is("count(14)", x.count(14), 3);
    }

    private static void learn() {
        RollPunch x = new RollPunch();
        DUE.is("learn() of nothing", x.learn(), 0);
        DUE.is("count(14)", x.count(14), 1);
        x.punch(RollPunch.NONE, 0, 9);
        DUE.is("learn() of the pedal alone", x.learn(), 0);
        x.punch(9, 4, 3);
        x.punch(2, 4, 1);
        x.punch(19, 0, 1);
        DUE.is("learn()", x.learn(), 3);
        DUE.is("tune", Due.tune(x), "19 0 0 0, 2 4 4 0, 9 4 6 0");
        x.punch(5, 50, 1);
        DUE.is("the tune stays", Due.tune(x), "19 0 0 0, 2 4 4 0, 9 4 6 0");
        x.patch(22, 0, 0);
        x.punch(9, 8, 1);
        DUE.is("missing ones", Due.tune(x), "19 0 0 1, 2 4 4 0, 9 4 6 1");
        DUE.is("learn() again", x.learn(), 3);
        DUE.is("tune", Due.tune(x), "2 4 4 0, 9 4 8 0, 5 50 50 0");
        DUE.is("undo()", x.undo(), 5);
        DUE.is("tune", Due.tune(x), "19 0 0 1, 2 4 4 0, 9 4 6 1");
    }

    // The most notes there can be: each second step of each track, with a bridge of 0.
    private static void learnMost() {
        RollPunch x = new RollPunch();
        x.set(0, 1);
        for (int n = 0; n < 20; n++) {
            x.punch(n, 0, 95);
        }
        x.set(0, 0);
        DUE.is("learn()", x.learn(), 960);
        DUE.is("count(5)", x.count(5), 960);
        DUE.is("played(959, 1)", x.played(959, 1), 94);
        DUE.is("tune(959, 0)", x.tune(959, 0), 19);
        DUE.bounds("tune(960, 0)", () -> x.tune(960, 0));
        DUE.is("bestBridge()", x.bestBridge(), 0);
        DUE.is("bestSteer(0, 95, 1)", x.bestSteer(0, 95, 1), 960);
    }

    public static void main(String[] args) {
        tear();
        tearErrors();
        steer();
        readBesideTheTracks();
        set();
        learn();
        learnMost();
        DUE.end();
    }
}
