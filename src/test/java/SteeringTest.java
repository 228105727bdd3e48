/** Promises 6 to 9: tear, steer, set, learn. */
public final class SteeringTest {
    private static final Due DUE = new Due("SteeringTest");
    private static final int LOW = Integer.MIN_VALUE;
    private static final int HIGH = Integer.MAX_VALUE;
    private static final Script EMPTY = new Script();

    private static RollPunch threeNotes() {
        RollPunch x = new RollPunch();
        x.punch(0, 10, 3);
        x.punch(0, 20, 3);
        x.punch(7, 30, 3);
        x.learn();
        return x;
    }

    private static void tear() {
        RollPunch x = threeNotes();
        DUE.is("tear(0, 15, 1)", x.tear(0, 15, 1), 2);
        DUE.is("edges", Due.steps(x, 0, 14, 17), "1 1 0 0");
        DUE.is("count(13)", x.count(13), 16);
        DUE.is("tear(15, 30, -2)", x.tear(15, 30, -2), 0);
        DUE.is("edges", Due.steps(x, 0, 14, 17), "1 -1 -2 -2");
        DUE.is("edges", Due.steps(x, 0, 29, 32), "-2 -2 0 0");
        DUE.is("tear(15, 30, 2)", x.tear(15, 30, 2), 2);
        DUE.is("tear(0, 15, -1)", x.tear(0, 15, -1), 3);
        DUE.is("count(13)", x.count(13), 0);
        DUE.is("tear(0, 95, 0)", x.tear(0, 95, 0), 3);
        DUE.is("tear(95, 95, 3)", x.tear(95, 95, 3), 3);
        DUE.state("tear(95, 95, 1)", () -> x.tear(95, 95, 1));
        DUE.state("tear(0, 95, 1)", () -> x.tear(0, 95, 1));
        DUE.is("edges", Due.steps(x, 0, 93, 95), "0 0 3");
        DUE.is("tear(95, 95, -3)", x.tear(95, 95, -3), 3);
        DUE.is("tear(0, 0, -3)", x.tear(0, 0, -3), 3);
        DUE.state("tear(0, 5, -1)", () -> x.tear(0, 5, -1));
        DUE.is("count(13)", x.count(13), 1);
        DUE.is("undo()", x.undo(), 5);
        DUE.is("step(0, 0)", x.step(0, 0), 0);
    }

    private static void tearErrors() {
        RollPunch x = threeNotes();
        x.tear(5, 5, 3);
        long before = x.digest();
        int[] steps = {-1, 96, LOW, HIGH};
        int[] beyond = {-4, 4, LOW, HIGH};
        for (int k : steps) {
            DUE.bounds("tear(" + k + ", 5, 0)", () -> x.tear(k, 5, 0));
            DUE.bounds("tear(5, " + k + ", 9)", () -> x.tear(5, k, 9));
            DUE.bounds("steer(" + k + ", 5, 0)", () -> x.steer(k, 5, 0));
            DUE.bounds("steer(5, " + k + ", 9)", () -> x.steer(5, k, 9));
        }
        for (int k : beyond) {
            DUE.argument("tear(5, 5, " + k + ")", () -> x.tear(5, 5, k));
            DUE.argument("steer(5, 5, " + k + ")", () -> x.steer(5, 5, k));
        }
        DUE.argument("tear(6, 5, 1)", () -> x.tear(6, 5, 1));
        DUE.argument("tear(95, 0, 0)", () -> x.tear(95, 0, 0));
        DUE.argument("steer(6, 5, 1)", () -> x.steer(6, 5, 1));
        DUE.state("tear(0, 95, 3)", () -> x.tear(0, 95, 3));
        DUE.is("digest()", x.digest(), before);
    }

    private static void steer() {
        RollPunch x = threeNotes();
        DUE.is("steer(0, 15, 1)", x.steer(0, 15, 1), 2);
        DUE.is("steering", Due.steps(x, 1, 14, 17), "1 1 0 0");
        DUE.is("steer(0, 15, 1) again", x.steer(0, 15, 1), 2);
        DUE.is("steering", Due.steps(x, 1, 14, 17), "1 1 0 0");
        DUE.is("count(13)", x.count(13), 0);
        DUE.is("steer(21, 95, -3)", x.steer(21, 95, -3), 0);
        DUE.is("played", Due.played(x), "0 20 20 20 1 0, 3 22 22 22 1 0, 10 30 32 32 2 0");
        DUE.is("tear(21, 95, 3)", x.tear(21, 95, 3), 2);
        DUE.is("tear(0, 15, -1)", x.tear(0, 15, -1), 3);
        DUE.is("steer(95, 95, 3)", x.steer(95, 95, 3), 3);
        DUE.is("steer(0, 95, 0)", x.steer(0, 95, 0), 0);
        DUE.is("undo()", x.undo(), 5);
        DUE.is("count(5)", x.count(5), 3);
        DUE.is("step(95, 1)", x.step(95, 1), 3);
    }

    private static void readBesideTheTracks() {
        RollPunch x = new RollPunch();
        x.punch(19, 0, 1);
        x.shift(3);
        x.tear(0, 0, 3);
        DUE.is("track 25 is that of note 19", Due.played(x), "19 0 0 0 1 0");
        x.steer(0, 0, 1);
        DUE.is("track 25 is that of note 18", Due.played(x), "18 0 0 0 1 0");
        x.steer(0, 0, 3);
        DUE.is("track 25 is that of note 16", Due.played(x), "16 0 0 0 1 0");
        RollPunch y = new RollPunch();
        y.punch(RollPunch.NONE, 0, 1);
        y.punch(3, 0, 1);
        y.shift(-2);
        y.tear(0, 0, -3);
        DUE.is("track 0 is that of note 0", Due.played(y), "0 0 0 0 1 0, 4 0 0 0 1 0");
        y.steer(0, 0, -3);
        DUE.is("track 0 is that of note 3", Due.played(y), "3 0 0 0 1 0, 7 0 0 0 1 0");
        DUE.is("no track of the pedal", y.step(0, 4), 0);
    }

    private static void set() {
        RollPunch x = new RollPunch();
        x.punch(0, 10, 1);
        x.punch(0, 13, 1);
        DUE.is("count(3)", x.count(3), 2);
        DUE.is("set(0, 2)", x.set(0, 2), 1);
        DUE.is("played", Due.played(x), "0 10 13 13 2 0");
        DUE.is("set(0, 0)", x.set(0, 0), 2);
        DUE.is("set(0, 3)", x.set(0, 3), 0);
        DUE.is("setting(0)", x.setting(0), 3);
        DUE.is("setting(1)", x.setting(1), 2);
        DUE.is("set(1, 8)", x.set(1, 8), 2);
        DUE.is("set(1, 0)", x.set(1, 0), 8);
        DUE.is("setting(1)", x.setting(1), 0);
        DUE.is("setting(0)", x.setting(0), 3);
        DUE.is("undo()", x.undo(), 5);
        DUE.is("setting(1)", x.setting(1), 8);
        DUE.is("undo()", x.undo(), 4);
        DUE.is("setting(1)", x.setting(1), 2);
        DUE.is("undo()", x.undo(), 3);
        DUE.is("setting(0)", x.setting(0), 0);
        DUE.is("count(3)", x.count(3), 2);
        int[] settings = {-1, 2, LOW, HIGH};
        for (int k : settings) {
            DUE.bounds("set(" + k + ", 0)", () -> x.set(k, 0));
            DUE.bounds("set(" + k + ", 99)", () -> x.set(k, 99));
        }
        int[] values = {-1, 4, LOW, HIGH};
        for (int k : values) {
            DUE.argument("set(0, " + k + ")", () -> x.set(0, k));
        }
        DUE.argument("set(1, -1)", () -> x.set(1, -1));
        DUE.argument("set(1, 9)", () -> x.set(1, 9));
        DUE.is("count(14)", x.count(14), 3);
    }

    private static void learn() {
        RollPunch x = new RollPunch();
        DUE.is("learn() of nothing", x.learn(), 0);
        DUE.is("count(14)", x.count(14), 1);
        x.punch(RollPunch.NONE, 0, 9);
        DUE.is("learn() of the pedal alone", x.learn(), 0);
        x.punch(9, 4, 3);
        x.punch(2, 4, 1);
        x.punch(19, 0, 1);
        DUE.is("learn()", x.learn(), 3);
        DUE.is("tune", Due.tune(x), "19 0 0 0, 2 4 4 0, 9 4 6 0");
        x.punch(5, 50, 1);
        DUE.is("the tune stays", Due.tune(x), "19 0 0 0, 2 4 4 0, 9 4 6 0");
        x.patch(22, 0, 0);
        x.punch(9, 8, 1);
        DUE.is("missing ones", Due.tune(x), "19 0 0 1, 2 4 4 0, 9 4 6 1");
        DUE.is("learn() again", x.learn(), 3);
        DUE.is("tune", Due.tune(x), "2 4 4 0, 9 4 8 0, 5 50 50 0");
        DUE.is("undo()", x.undo(), 5);
        DUE.is("tune", Due.tune(x), "19 0 0 1, 2 4 4 0, 9 4 6 1");
    }

    // The most notes there can be: each second step of each track, with a bridge of 0.
    private static void learnMost() {
        RollPunch x = new RollPunch();
        x.set(0, 1);
        for (int n = 0; n < 20; n++) {
            x.punch(n, 0, 95);
        }
        x.set(0, 0);
        DUE.is("learn()", x.learn(), 960);
        DUE.is("count(5)", x.count(5), 960);
        DUE.is("played(959, 1)", x.played(959, 1), 94);
        DUE.is("tune(959, 0)", x.tune(959, 0), 19);
        DUE.bounds("tune(960, 0)", () -> x.tune(960, 0));
        DUE.is("bestBridge()", x.bestBridge(), 0);
        DUE.is("bestSteer(0, 95, 1)", x.bestSteer(0, 95, 1), 960);
    }

    // "-3 to 3": each edge that there is, and each number by which it can become greater.
    private static void everyEdge() {
        for (int edge = -3; edge <= 3; edge++) {
            for (int by = -3; by <= 3; by++) {
                int e = edge;
                int b = by;
                RollPunch x = EMPTY.then(y -> y.tear(50, 51, e)).play();
                String call = "tear(51, 52, " + b + ") of an edge of " + e;
                if (e + b < -3 || e + b > 3) {
                    DUE.state(call, () -> x.tear(51, 52, b));
                    DUE.is("edges behind " + call, Due.steps(x, 0, 49, 53), "0 " + e + " " + e + " 0 0");
                } else {
                    DUE.is(call, x.tear(51, 52, b), 0);
                    DUE.is("edges behind " + call, Due.steps(x, 0, 49, 53), "0 " + e + " " + (e + b) + " " + b + " 0");
                    int torn = (e != 0 ? 1 : 0) + (e + b != 0 ? 1 : 0) + (b != 0 ? 1 : 0);
                    DUE.is("count(13) behind " + call, x.count(13), torn);
                }
            }
        }
    }

    // "From one to another one": the edges beside them neither change nor stand against it.
    private static void tearFromTo() {
        Script ends = EMPTY.then(x -> x.tear(0, 0, 3), x -> x.tear(95, 95, -3));
        DUE.is("count(13)", ends.ask(x -> x.count(13)), 2);
        DUE.is("beside an edge of 3", ends.then(x -> x.tear(1, 94, 3)).ask(x -> x.count(13)), 96);
        DUE.is("beside an edge of -3", ends.then(x -> x.tear(1, 94, -3)).ask(x -> x.count(13)), 96);
        DUE.is("by 0, at both ends of the range", ends.ask(x -> x.tear(0, 95, 0)), 0);
        RollPunch x = ends.play();
        DUE.state("with an edge of 3", () -> x.tear(0, 94, 1));
        DUE.state("with an edge of -3", () -> x.tear(1, 95, -1));
        DUE.state("with both, up", () -> x.tear(0, 95, 1));
        DUE.state("with both, down", () -> x.tear(0, 95, -1));
        DUE.is("one step", Due.steps(EMPTY.then(y -> y.tear(7, 7, 1)).play(), 0, 6, 8), "0 1 0");
        DUE.is("the first step", Due.steps(EMPTY.then(y -> y.tear(0, 0, 1)).play(), 0, 0, 1), "1 0");
        DUE.is("the last step", Due.steps(EMPTY.then(y -> y.tear(95, 95, 1)).play(), 0, 94, 95), "0 1");
        DUE.is("all steps", EMPTY.then(y -> y.tear(0, 95, -1)).ask(y -> y.count(13)), 96);
    }

    // "Becomes a number": whatever it was, and at no other step.
    private static void everySteering() {
        for (int was = -3; was <= 3; was++) {
            for (int by = -3; by <= 3; by++) {
                int w = was;
                int b = by;
                RollPunch x = EMPTY.then(y -> y.steer(50, 52, w), y -> y.steer(51, 51, b)).play();
                DUE.is("steering", Due.steps(x, 1, 49, 53), "0 " + w + " " + b + " " + w + " 0");
                DUE.is("edges", Due.steps(x, 0, 49, 53), "0 0 0 0 0");
                DUE.is("count(13)", x.count(13), 0);
            }
        }
        DUE.is("the first step", Due.steps(EMPTY.then(y -> y.steer(0, 0, 3)).play(), 1, 0, 1), "3 0");
        DUE.is("the last step", Due.steps(EMPTY.then(y -> y.steer(95, 95, -3)).play(), 1, 94, 95), "0 -3");
    }

    // "How many notes are right then": with what has just changed, from none to all.
    private static void rightThen() {
        Script three = EMPTY.then(x -> x.punch(3, 0, 1), x -> x.punch(4, 50, 5), x -> x.punch(5, 95, 1));
        DUE.is("without a tune", three.ask(x -> x.steer(0, 95, 0)), 0);
        Script learned = three.then(x -> x.learn());
        DUE.is("all", learned.ask(x -> x.steer(0, 95, 0)), 3);
        DUE.is("but the first", learned.ask(x -> x.steer(0, 0, 1)), 2);
        DUE.is("but the last", learned.ask(x -> x.tear(95, 95, -1)), 2);
        DUE.is("but the one between", learned.ask(x -> x.tear(54, 54, 1)), 2);
        DUE.is("none", learned.ask(x -> x.tear(0, 95, 1)), 0);
        DUE.is("all again", learned.then(x -> x.tear(0, 95, 1)).ask(x -> x.steer(0, 95, -1)), 3);
        DUE.is("a step between without a hole", learned.ask(x -> x.tear(51, 51, 3)), 3);
        DUE.is("shift by 0", learned.ask(x -> x.shift(0)), 3);
        DUE.is("shift by 1", learned.ask(x -> x.shift(1)), 0);
        DUE.is("a wrong one is not counted", learned.then(x -> x.punch(9, 9, 1)).ask(x -> x.shift(0)), 3);
    }

    // Both ends of both settings, with what they do at once.
    private static void setAtTheEnds() {
        Script gaps = EMPTY.then(x -> x.punch(3, 40, 1), x -> x.punch(3, 44, 1), x -> x.punch(3, 49, 1));
        int[] chains = {3, 3, 3, 2};
        int[] wishes = {0, 0, 1, 5, 7, 7, 7, 7, 7};
        for (int value = 0; value <= 3; value++) {
            int v = value;
            DUE.is("set(0, " + v + ")", gaps.ask(x -> x.set(0, v)), 1);
            DUE.is("set(0, " + v + ") again", gaps.then(x -> x.set(0, v)).ask(x -> x.set(0, v)), v);
            DUE.is("setting(0) of " + v, gaps.then(x -> x.set(0, v)).ask(x -> x.setting(0)), v);
            DUE.is("count(3) with a bridge of " + v, gaps.then(x -> x.set(0, v)).ask(x -> x.count(3)), chains[v]);
        }
        for (int value = 0; value <= 8; value++) {
            int v = value;
            DUE.is("set(1, " + v + ")", gaps.ask(x -> x.set(1, v)), 2);
            DUE.is("set(1, " + v + ") again", gaps.then(x -> x.set(1, v)).ask(x -> x.set(1, v)), v);
            DUE.is("setting(1) of " + v, gaps.then(x -> x.set(1, v)).ask(x -> x.setting(1)), v);
            DUE.is("count(10) with a reach of " + v, gaps.then(x -> x.set(1, v)).ask(x -> x.count(10)), wishes[v]);
        }
        DUE.is("setting(1) beside setting 0", gaps.then(x -> x.set(0, 3)).ask(x -> x.setting(1)), 2);
        DUE.is("setting(0) beside setting 1", gaps.then(x -> x.set(1, 3)).ask(x -> x.setting(0)), 1);
    }

    // "The notes that are played now are the tune": of none there is none, even if there was one.
    private static void learnNothing() {
        Script learned = EMPTY.then(x -> x.punch(3, 0, 1), x -> x.punch(4, 50, 5), x -> x.learn());
        DUE.is("learn() again", learned.ask(x -> x.learn()), 2);
        Script silent = learned.then(x -> x.patch(6, 0, 95), x -> x.patch(7, 0, 95));
        DUE.is("count(7)", silent.ask(x -> x.count(7)), 2);
        DUE.is("learn() of silence", silent.ask(x -> x.learn()), 0);
        Script empty = silent.then(x -> x.learn());
        DUE.is("count(4)", empty.ask(x -> x.count(4)), 0);
        DUE.is("count(7)", empty.ask(x -> x.count(7)), 0);
        RollPunch x = empty.play();
        DUE.bounds("tune(0, 0)", () -> x.tune(0, 0));
        DUE.isExactly("tuneShare()", x.tuneShare(), 0.0);
        DUE.is("the tune before it by undo()", Due.tune(empty.undone(1).play()), "3 0 0 1, 4 50 54 1");
        DUE.is("one note", EMPTY.then(y -> y.punch(19, 95, 1)).ask(y -> y.learn()), 1);
    }

    public static void main(String[] args) {
        tear();
        tearErrors();
        everyEdge();
        tearFromTo();
        steer();
        everySteering();
        rightThen();
        readBesideTheTracks();
        set();
        setAtTheEnds();
        learn();
        learnNothing();
        learnMost();
        DUE.end();
    }
}
