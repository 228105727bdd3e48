/** Promises 10 to 14: append, clearBuffer, firstError, punchAll, undo. */
public final class TextTest {
    private static final Due DUE = new Due("TextTest");
    private static final int LOW = Integer.MIN_VALUE;
    private static final int HIGH = Integer.MAX_VALUE;

    private static void append() {
        RollPunch x = new RollPunch();
        int[] codes = {32, 127, 0, -1, 128, LOW, HIGH};
        for (int k : codes) {
            DUE.argument("append(" + k + ")", () -> x.append(k));
        }
        DUE.is("append(33)", x.append(33), 1);
        DUE.is("append(126)", x.append(126), 2);
        for (int i = 3; i <= 60; i++) {
            DUE.is("append(65)", x.append(65), i);
        }
        DUE.state("append(65) of 60", () -> x.append(65));
        DUE.argument("append(32) of 60", () -> x.append(32));
        DUE.is("count(14)", x.count(14), 0);
        DUE.is("clearBuffer()", x.clearBuffer(), 60);
        DUE.is("clearBuffer() again", x.clearBuffer(), 0);
        DUE.is("count(14)", x.count(14), 0);
        DUE.is("append(65)", x.append(65), 1);
    }

    private static void error(String text, int want) {
        RollPunch x = new RollPunch();
        Due.write(x, text);
        DUE.is("firstError() of " + text, x.firstError(), want);
        DUE.is("firstError() of " + text + " again", x.firstError(), want);
        DUE.is("its length", x.clearBuffer(), text.length());
        DUE.is("firstError() of nothing", x.firstError(), 0);
    }

    private static void firstError() {
        String[] good = {"", "p", "p@", "0", "1", "9", "10", "19", "19@", "0@0", "0@95", "0@9:", "7@85:1", "7@8:96",
            "7@8:9", "7@8:90,", "7@8:90,p", "7@8:1,p@0:96,19@95:1", "0@89:89", "p@10:10,10@10:10"};
        for (String text : good) {
            error(text, text.length());
        }
        error("@", 0);
        error(",", 0);
        error(":", 0);
        error("P", 0);
        error("q@0:1", 0);
        error("~", 0);
        error("pp", 1);
        error("p1", 1);
        error("1p", 1);
        error("p:", 1);
        error("p,", 1);
        error("00", 1);
        error("01@", 1);
        error("20@", 1);
        error("29", 1);
        error("99", 1);
        error("100", 2);
        error("190", 2);
        error("3@@", 2);
        error("3@:", 2);
        error("3@p", 2);
        error("3@,", 2);
        error("3@00", 3);
        error("3@05:", 3);
        error("3@96", 3);
        error("3@99", 3);
        error("3@100", 4);
        error("3@9,", 3);
        error("3@9@", 3);
        error("3@9p", 3);
        error("3@9:0", 4);
        error("3@9::", 4);
        error("3@9:p", 4);
        error("3@9:,", 4);
        error("3@9:97", 5);
        error("3@9:100", 6);
        error("3@9:1:", 5);
        error("3@9:1@", 5);
        error("3@9:1p", 5);
        error("3@9:1,,", 6);
        error("3@9:1,@", 6);
        error("3@9:1,20@", 7);
        error("3@9:1,p@0:1,p@0:1,p@0:1,p@0:1,p@0:1,p@0:1,p@0:1,p@0:1,p@0:9!", 59);
    }

    private static void punchAll() {
        RollPunch x = new RollPunch();
        Due.write(x, "5@20:3,p@30:4,19@90:6");
        DUE.is("punchAll()", x.punchAll(), 2 + 3 + 4);
        DUE.is("played", Due.played(x), "5 20 22 22 2 0, 19 90 95 95 4 0");
        DUE.is("pedal", Due.steps(x, 4, 29, 34), "0 1 1 1 1 0");
        DUE.is("clearBuffer()", x.clearBuffer(), 0);
        DUE.is("count(14)", x.count(14), 1);
        Due.write(x, "5@20:5,5@24:1,5@26:1");
        DUE.is("punchAll()", x.punchAll(), 2);
        DUE.is("played(0, 2)", x.played(0, 2), 26);
        DUE.is("count(14)", x.count(14), 2);
        x.patch(8, 0, 95);
        Due.write(x, "5@26:1");
        DUE.is("punchAll() below a patch", x.punchAll(), 0);
        DUE.is("played", Due.played(x), "5 26 26 26 1 0, 19 90 95 95 4 0");
        DUE.is("count(2)", x.count(2), 95);
        Due.write(x, "p@5");
        DUE.is("undo()", x.undo(), 3);
        DUE.is("the buffer stays", x.clearBuffer(), 3);
        DUE.is("undo()", x.undo(), 2);
        DUE.is("undo()", x.undo(), 1);
        DUE.is("undo()", x.undo(), 0);
        DUE.is("count(0)", x.count(0), 0);
        Due.write(x, "p@0:9,p@9:9,0@1:9,1@1:9,2@1:9,3@1:9,4@1:9,5@1:9,6@1:9,7@1:9");
        DUE.is("punchAll() of ten", x.punchAll(), 50);
        x.set(0, 3);
        Due.write(x, "9@0:96");
        DUE.is("punchAll() with a bridge", x.punchAll(), 25);
    }

    private static void punchAllErrors() {
        RollPunch x = new RollPunch();
        DUE.argument("punchAll() of nothing", () -> x.punchAll());
        String[] cut = {"p", "p@", "3", "3@4", "3@4:", "3@4:5,", "3@4:5,p", "3@4:5,p@3:", "3@4:5,x", "3@90:9,",
            "x", "3@4:5@", "3@4:0", "3@4:97", "3@4:5,3@4:97"};
        for (String text : cut) {
            Due.write(x, text);
            DUE.argument("punchAll() of " + text, () -> x.punchAll());
            DUE.is("the buffer stays", x.clearBuffer(), text.length());
        }
        String[] late = {"p@95:2", "0@0:1,1@90:7,2@0:1", "0@0:1,1@1:96", "3@90:7", "3@90:1,4@90:96"};
        for (String text : late) {
            Due.write(x, text);
            DUE.state("punchAll() of " + text, () -> x.punchAll());
            DUE.is("the buffer stays", x.clearBuffer(), text.length());
        }
        DUE.is("counts", Due.counts(x), "0 0 0 0 0 0 0 0 0 0 0 0 0 0 0");
        Due.write(x, "3@90:1,4@90:7");
        DUE.state("punchAll() of a late one", () -> x.punchAll());
        x.clearBuffer();
        Due.write(x, "9@9:9");
        DUE.is("punchAll() of fewer", x.punchAll(), 5);
        x.undo();
        Due.write(x, "3@90:6,p@0:96,4@95:1");
        DUE.is("punchAll()", x.punchAll(), 4 + 49 + 1);
    }

    private static void undo() {
        RollPunch x = new RollPunch();
        DUE.state("undo()", () -> x.undo());
        long[] before = new long[10];
        for (int i = 0; i < 10; i++) {
            before[i] = withoutSaved(x);
            x.punch(i, i, 3);
            x.tear(i, i, 1);
            x.undo();
            DUE.is("count(14)", x.count(14), Math.min(i + 1, 5));
            x.steer(i, i, 2);
            x.undo();
        }
        // Each round's tear or steer pushed the oldest state out once six were saved.
        int left = x.count(14);
        DUE.is("count(14)", left, 5);
        for (int i = 9; i >= 5; i--) {
            DUE.is("undo()", x.undo(), i - 5);
            DUE.is("the state before punch " + i, withoutSaved(x), before[i]);
        }
        DUE.state("undo()", () -> x.undo());
        DUE.is("count(3)", x.count(3), 5);
    }

    private static long withoutSaved(RollPunch x) {
        long sum = x.count(0) + 100L * x.count(1) + 10000L * x.count(2) + 1000000L * x.count(3) + 77L * x.count(13);
        for (int s = 0; s < 96; s++) {
            for (int what = 0; what <= 6; what++) {
                sum = 31 * sum + x.step(s, what);
            }
        }
        return sum;
    }

    private static void undoOfEach() {
        RollPunch x = new RollPunch();
        x.punch(3, 5, 5);
        x.learn();
        x.punch(4, 5, 5);
        x.tear(5, 6, 1);
        x.steer(5, 6, -1);
        x.patch(7, 7, 7);
        x.set(0, 2);
        x.set(1, 5);
        x.undo();
        x.undo();
        DUE.is("settings", x.setting(0) + " " + x.setting(1), "1 2");
        DUE.is("counts", Due.counts(x), "6 5 1 3 1 1 2 0 0 0 0 2 0 2 4");
        x.undo();
        DUE.is("counts", Due.counts(x), "6 6 0 2 1 1 1 0 0 0 0 3 0 2 3");
        x.undo();
        DUE.is("steering", Due.steps(x, 1, 4, 7), "0 0 0 0");
        DUE.is("counts", Due.counts(x), "6 6 0 3 1 1 2 0 0 0 0 3 0 2 2");
        x.undo();
        DUE.is("counts", Due.counts(x), "6 6 0 2 1 1 1 0 0 0 0 3 0 0 1");
        DUE.is("undo()", x.undo(), 0);
        DUE.is("counts", Due.counts(x), "3 3 0 1 1 1 0 0 0 0 0 0 0 0 0");
        DUE.state("undo(): the first two are dropped", () -> x.undo());
    }

    // A call that changes nothing is saved too, one that throws or only tells is not.
    private static void saved() {
        RollPunch x = new RollPunch();
        x.shift(0);
        x.tear(0, 0, 0);
        x.steer(0, 0, 0);
        x.set(0, 1);
        x.peel(0, 0, 0);
        DUE.is("count(14)", x.count(14), 5);
        x.bestSteer(0, 95, 0);
        x.bestBridge();
        x.bestBreak(1, 0);
        x.holesFor(3);
        x.digest();
        x.firstError();
        x.append(33);
        x.clearBuffer();
        DUE.is("count(14)", x.count(14), 5);
        DUE.state("punch(0, 95, 2)", () -> x.punch(0, 95, 2));
        DUE.is("count(14)", x.count(14), 5);
        DUE.is("undo()", x.undo(), 4);
        x.patch(0, 0, 0);
        x.patch(0, 0, 0);
        x.patch(0, 1, 1);
        DUE.is("count(14)", x.count(14), 6);
        x.undo();
        x.undo();
        DUE.is("count(2)", x.count(2), 1);
        x.undo();
        DUE.is("count(2)", x.count(2), 0);
    }

    public static void main(String[] args) {
        append();
        firstError();
        punchAll();
        punchAllErrors();
        undo();
        undoOfEach();
        saved();
        DUE.end();
    }
}
