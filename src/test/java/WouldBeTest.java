/** Promises 21 to 26: bestSteer, bestBridge, bestBreak, holesFor, tuneShare, digest. */
public final class WouldBeTest {
    private static final Due DUE = new Due("WouldBeTest");
    private static final int LOW = Integer.MIN_VALUE;
    private static final int HIGH = Integer.MAX_VALUE;

    // Notes at 10 to 12, 20 to 22, 30 to 32 and 40 to 42, all learned.
    private static RollPunch fourNotes() {
        RollPunch x = new RollPunch();
        for (int i = 1; i <= 4; i++) {
            x.punch(8, 10 * i, 3);
        }
        x.learn();
        return x;
    }

    private static void best(RollPunch x, int from, int to, int steering, int right) {
        String call = "bestSteer(" + from + ", " + to + ", ";
        DUE.is(call + "0)", x.bestSteer(from, to, 0), steering);
        DUE.is(call + "1)", x.bestSteer(from, to, 1), right);
    }

    private static void bestSteer() {
        RollPunch x = fourNotes();
        best(x, 0, 95, 0, 4);
        x.tear(0, 25, 2);
        best(x, 0, 95, 0, 2);
        best(x, 0, 25, -2, 4);
        best(x, 26, 95, 0, 2);
        best(x, 0, 19, -2, 3);
        best(x, 0, 11, 0, 2);
        best(x, 5, 12, -2, 3);
        best(x, 12, 12, 0, 2);
        x.tear(26, 95, -1);
        best(x, 0, 95, 1, 2);
        best(x, 33, 95, 1, 1);
        x.steer(10, 12, -2);
        best(x, 0, 95, 1, 2);
        best(x, 13, 95, 1, 3);
        DUE.is("nothing is changed", x.count(5) + " " + x.step(30, 1) + " " + x.count(14), "1 0 6");
        RollPunch y = fourNotes();
        y.tear(0, 25, 3);
        y.tear(26, 95, -3);
        best(y, 0, 95, -3, 2);
        y.tear(26, 95, 1);
        best(y, 0, 95, 2, 2);
        y.tear(0, 25, -1);
        best(y, 0, 95, -2, 2);
        y.tear(20, 95, 1);
        y.tear(40, 95, -1);
        best(y, 0, 95, 1, 1);
        y.tear(0, 19, -2);
        best(y, 0, 95, 0, 1);
        best(new RollPunch(), 0, 95, 0, 0);
        best(new RollPunch(), 95, 95, 0, 0);
    }

    private static void bestSteerOfOneStep() {
        RollPunch x = new RollPunch();
        x.punch(8, 0, 1);
        x.punch(8, 30, 1);
        x.punch(8, 60, 1);
        x.punch(8, 95, 1);
        x.learn();
        x.tear(0, 0, 1);
        x.tear(95, 95, -1);
        best(x, 0, 95, 0, 2);
        best(x, 0, 0, -1, 3);
        best(x, 1, 95, 0, 2);
        best(x, 95, 95, 1, 3);
        best(x, 0, 94, 0, 2);
        x.tear(30, 30, 1);
        x.tear(60, 60, -1);
        best(x, 0, 95, -1, 2);
        best(x, 0, 59, -1, 2);
        best(x, 30, 30, -1, 1);
        best(x, 31, 95, 1, 2);
        x.tear(30, 60, 1);
        best(x, 0, 30, -1, 2);
        best(x, 30, 95, 0, 1);
        best(x, 0, 60, 0, 1);
        best(x, 30, 30, -2, 2);
    }

    // What an earlier question found has no say in a later one.
    private static void questionsInTurn() {
        RollPunch x = new RollPunch();
        x.punch(8, 10, 1);
        x.punch(8, 14, 1);
        x.punch(8, 20, 1);
        x.set(0, 2);
        x.punch(8, 40, 4);
        x.learn();
        x.tear(0, 95, 1);
        x.set(0, 0);
        DUE.is("bestSteer(0, 95, 1)", x.bestSteer(0, 95, 1), 3);
        DUE.is("bestBridge()", x.bestBridge(), 0);
        DUE.is("bestBreak(1, 1)", x.bestBreak(1, 1), 0);
        DUE.is("bestBreak(1, 0)", x.bestBreak(1, 0), 0);
        DUE.is("bestBreak(-1, 1)", x.bestBreak(-1, 1), 3);
        x.steer(0, 95, -1);
        x.tear(20, 50, 1);
        DUE.is("count(5)", x.count(5), 2);
        DUE.is("bestBridge()", x.bestBridge(), 0);
        DUE.is("bestSteer(40, 95, 1)", x.bestSteer(40, 95, 1), 2);
        x.set(0, 2);
        DUE.is("bestSteer(40, 95, 1)", x.bestSteer(40, 95, 1), 3);
        x.tear(20, 50, -1);
        x.set(0, 0);
        DUE.is("bestBridge()", x.bestBridge(), 2);
    }

    private static void bestSteerErrors() {
        RollPunch x = fourNotes();
        int[] steps = {-1, 96, LOW, HIGH};
        int[] whats = {-1, 2, LOW, HIGH};
        for (int k : steps) {
            DUE.bounds("bestSteer(" + k + ", 5, 0)", () -> x.bestSteer(k, 5, 0));
            DUE.bounds("bestSteer(5, " + k + ", 2)", () -> x.bestSteer(5, k, 2));
        }
        for (int k : whats) {
            DUE.argument("bestSteer(0, 95, " + k + ")", () -> x.bestSteer(0, 95, k));
        }
        DUE.argument("bestSteer(6, 5, 0)", () -> x.bestSteer(6, 5, 0));
        DUE.argument("bestSteer(95, 0, 1)", () -> x.bestSteer(95, 0, 1));
    }

    private static void bestBridge() {
        RollPunch x = new RollPunch();
        DUE.is("bestBridge() of nothing", x.bestBridge(), 0);
        x.set(0, 3);
        x.punch(1, 0, 96);
        x.learn();
        DUE.is("bestBridge()", x.bestBridge(), 3);
        x.set(0, 0);
        DUE.is("bestBridge()", x.bestBridge(), 3);
        DUE.is("setting(0)", x.setting(0), 0);
        x.learn();
        DUE.is("bestBridge()", x.bestBridge(), 0);
        RollPunch y = new RollPunch();
        y.punch(1, 0, 5);
        y.punch(1, 8, 5);
        y.learn();
        DUE.is("1 and no more", y.bestBridge(), 1);
        y.set(0, 3);
        DUE.is("1 and no more", y.bestBridge(), 1);
        y.punch(3, 20, 1);
        y.punch(3, 23, 1);
        y.set(0, 2);
        y.learn();
        DUE.is("2 is the least with both", y.bestBridge(), 2);
    }

    private static void breaks(RollPunch x, int by, int step, int right) {
        DUE.is("bestBreak(" + by + ", 0)", x.bestBreak(by, 0), step);
        DUE.is("bestBreak(" + by + ", 1)", x.bestBreak(by, 1), right);
    }

    private static void bestBreak() {
        RollPunch x = fourNotes();
        breaks(x, 0, 0, 4);
        breaks(x, 1, 43, 4);
        breaks(x, -3, 43, 4);
        x.tear(25, 95, 2);
        breaks(x, -2, 23, 4);
        breaks(x, -1, 23, 2);
        breaks(x, 1, 23, 2);
        breaks(x, 0, 0, 2);
        x.tear(35, 95, -1);
        breaks(x, -2, 23, 3);
        breaks(x, -1, 23, 3);
        breaks(x, 3, 23, 2);
        DUE.is("nothing is changed", x.count(5) + " " + x.step(90, 1) + " " + x.count(14), "2 0 6");
        RollPunch y = fourNotes();
        y.steer(0, 95, -2);
        y.tear(0, 25, 3);
        DUE.is("count(5)", y.count(5), 0);
        breaks(y, -1, 0, 2);
        breaks(y, -3, 0, 2);
        breaks(y, 3, 0, 0);
        breaks(y, 2, 0, 2);
        RollPunch z = fourNotes();
        z.steer(0, 95, 2);
        z.tear(0, 25, -3);
        breaks(z, 3, 0, 2);
        breaks(z, 1, 0, 2);
        RollPunch w = new RollPunch();
        w.punch(0, 95, 1);
        w.learn();
        breaks(w, 1, 0, 0);
        w.punch(0, 94, 1);
        w.learn();
        breaks(w, 1, 0, 0);
        w.tear(95, 95, -1);
        breaks(w, 1, 95, 1);
        RollPunch v = new RollPunch();
        v.punch(0, 0, 1);
        v.learn();
        v.tear(0, 0, 1);
        breaks(v, -1, 0, 1);
        breaks(v, 1, 0, 0);
    }

    private static void bestBreakErrors() {
        RollPunch x = fourNotes();
        int[] beyond = {-4, 4, LOW, HIGH};
        int[] whats = {-1, 2, LOW, HIGH};
        for (int k : beyond) {
            DUE.argument("bestBreak(" + k + ", 0)", () -> x.bestBreak(k, 0));
        }
        for (int k : whats) {
            DUE.argument("bestBreak(0, " + k + ")", () -> x.bestBreak(0, k));
        }
    }

    private static void holesFor() {
        for (int bridge = 0; bridge <= 3; bridge++) {
            for (int length = 1; length <= 96; length++) {
                RollPunch x = new RollPunch();
                x.set(0, bridge);
                int holes = x.holesFor(length);
                DUE.is("holesFor(" + length + "), bridge " + bridge, holes, x.punch(4, 96 - length, length));
            }
        }
        RollPunch x = new RollPunch();
        DUE.is("holesFor(1)", x.holesFor(1), 1);
        DUE.is("holesFor(2)", x.holesFor(2), 2);
        DUE.is("holesFor(3)", x.holesFor(3), 2);
        DUE.is("holesFor(4)", x.holesFor(4), 3);
        DUE.is("holesFor(96)", x.holesFor(96), 49);
        x.set(0, 3);
        DUE.is("holesFor(96), bridge 3", x.holesFor(96), 25);
        x.set(0, 0);
        DUE.is("holesFor(96), bridge 0", x.holesFor(96), 96);
        int[] lengths = {0, -1, 97, LOW, HIGH};
        for (int k : lengths) {
            DUE.argument("holesFor(" + k + ")", () -> x.holesFor(k));
        }
    }

    private static void tuneShare() {
        RollPunch x = new RollPunch();
        DUE.isExactly("tuneShare() of nothing", x.tuneShare(), 0.0);
        x.punch(0, 0, 1);
        DUE.isExactly("tuneShare() without a tune", x.tuneShare(), 0.0);
        for (int n = 1; n <= 6; n++) {
            x.punch(n, n, 1);
        }
        x.learn();
        DUE.isExactly("tuneShare()", x.tuneShare(), 1.0);
        for (int n = 0; n <= 6; n++) {
            x.patch(n + 3, n, n);
            DUE.isExactly("tuneShare()", x.tuneShare(), (6 - n) / 7.0);
        }
        x.peel(6, 3, 3);
        x.punch(9, 50, 9);
        DUE.isExactly("tuneShare() with a wrong one", x.tuneShare(), 1 / 7.0);
    }

    private static long digestByCalls(RollPunch x) {
        long hash = 2371;
        for (int what = 0; what <= 14; what++) {
            hash = 31 * hash + x.count(what);
        }
        hash = 31 * hash + x.setting(0);
        hash = 31 * hash + x.setting(1);
        for (int s = 0; s < 96; s++) {
            for (int what = 0; what <= 6; what++) {
                hash = 31 * hash + x.step(s, what);
            }
        }
        for (int i = 0; i < x.count(3); i++) {
            for (int what = 0; what <= 5; what++) {
                hash = 31 * hash + x.played(i, what);
            }
        }
        for (int i = 0; i < x.count(4); i++) {
            for (int what = 0; what <= 3; what++) {
                hash = 31 * hash + x.tune(i, what);
            }
        }
        int[] ends = {0, 95, 0, 47, 48, 95};
        for (int i = 0; i < 6; i += 2) {
            hash = 31 * hash + x.bestSteer(ends[i], ends[i + 1], 0);
            hash = 31 * hash + x.bestSteer(ends[i], ends[i + 1], 1);
        }
        hash = 31 * hash + x.bestBridge();
        hash = 31 * hash + x.bestBreak(1, 0);
        hash = 31 * hash + x.bestBreak(1, 1);
        hash = 31 * hash + x.bestBreak(-1, 0);
        hash = 31 * hash + x.bestBreak(-1, 1);
        return 31 * hash + Double.doubleToLongBits(x.tuneShare());
    }

    private static void digest() {
        RollPunch x = new RollPunch();
        DUE.is("digest() of nothing", x.digest(), digestByCalls(x) * 31);
        for (int n = 0; n < 20; n++) {
            x.punch(n, 2 * n, n + 1);
        }
        x.learn();
        DUE.is("digest()", x.digest(), digestByCalls(x) * 31);
        x.punch(RollPunch.NONE, 3, 20);
        for (int n = 0; n < 20; n++) {
            x.patch(n + 3, 2 * n, 2 * n);
            DUE.is("digest()", x.digest(), digestByCalls(x) * 31);
        }
        x.tear(50, 95, 1);
        x.steer(10, 20, -1);
        DUE.is("digest()", x.digest(), digestByCalls(x) * 31);
        long empty = digestByCalls(x);
        Due.write(x, "p~");
        DUE.is("digest() with a buffer", x.digest(), ((empty * 31 + 2) * 31 + 'p') * 31 + '~');
        DUE.is("digest() again", x.digest(), ((empty * 31 + 2) * 31 + 'p') * 31 + '~');
    }

    // The spans of bestSteer within the digest, by notes at their first and last steps.
    private static void digestOfSpans() {
        int[] steps = {0, 1, 46, 47, 48, 49, 94, 95};
        for (int torn : steps) {
            RollPunch x = new RollPunch();
            x.set(0, 0);
            for (int i = 0; i < steps.length; i++) {
                x.punch(2 * i, steps[i], 1);
            }
            x.learn();
            x.tear(torn, torn, 1);
            DUE.is("digest() with step " + torn + " torn", x.digest(), digestByCalls(x) * 31);
            x.tear(0, 95, -1);
            DUE.is("digest() with all others torn", x.digest(), digestByCalls(x) * 31);
            x.tear(0, 95, -1);
            DUE.is("digest() with all torn", x.digest(), digestByCalls(x) * 31);
        }
    }

    // The bits of each share that 960 notes at the most can make.
    private static void digestOfShares() {
        RollPunch x = new RollPunch();
        for (int n = 0; n < 13; n++) {
            x.punch(n, 7 * n, 1);
        }
        x.learn();
        for (int n = 0; n < 13; n++) {
            x.patch(n + 3, 7 * n, 7 * n);
            DUE.is("digest() of a share " + x.tuneShare(), x.digest(), digestByCalls(x) * 31);
        }
    }

    public static void main(String[] args) {
        bestSteer();
        bestSteerOfOneStep();
        bestSteerErrors();
        questionsInTurn();
        bestBridge();
        bestBreak();
        bestBreakErrors();
        holesFor();
        tuneShare();
        digest();
        digestOfSpans();
        digestOfShares();
        DUE.end();
    }
}
