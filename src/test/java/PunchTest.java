/** Promises 1 to 5: a new object, punch, patch, peel, shift. */
public final class PunchTest {
    private static final Due DUE = new Due("PunchTest");
    private static final int LOW = Integer.MIN_VALUE;
    private static final int HIGH = Integer.MAX_VALUE;

    private static void newObject() {
        RollPunch x = new RollPunch();
        DUE.is("NONE", RollPunch.NONE, -1);
        DUE.is("counts", Due.counts(x), "0 0 0 0 0 0 0 0 0 0 0 0 0 0 0");
        DUE.is("setting(0)", x.setting(0), 1);
        DUE.is("setting(1)", x.setting(1), 2);
        for (int s = 0; s < 96; s++) {
            for (int what = 0; what <= 6; what++) {
                DUE.is("step(" + s + ", " + what + ")", x.step(s, what), 0);
            }
            for (int t = 0; t < 26; t++) {
                int note = t == 2 ? -2 : t > 2 && t < 23 ? t - 3 : -1;
                DUE.is("place(" + s + ", " + t + ", 0)", x.place(s, t, 0), 0);
                DUE.is("place(" + s + ", " + t + ", 1)", x.place(s, t, 1), 0);
                DUE.is("place(" + s + ", " + t + ", 2)", x.place(s, t, 2), note);
            }
        }
        DUE.bounds("played(0, 0)", () -> x.played(0, 0));
        DUE.bounds("tune(0, 0)", () -> x.tune(0, 0));
        DUE.is("firstError()", x.firstError(), 0);
        DUE.is("clearBuffer()", x.clearBuffer(), 0);
        DUE.state("undo()", () -> x.undo());
        DUE.isExactly("tuneShare()", x.tuneShare(), 0.0);
        DUE.is("digest()", x.digest(), new RollPunch().digest());
    }

    private static String holesOn(RollPunch x, int track) {
        StringBuilder row = new StringBuilder();
        for (int s = 0; s < 96; s++) {
            if (x.place(s, track, 0) == 1) {
                row.append(row.length() > 0 ? " " : "").append(s).append(x.place(s, track, 1) == 1 ? "*" : "");
            }
        }
        return row.toString();
    }

    private static void punch() {
        RollPunch x = new RollPunch();
        DUE.is("punch(0, 4, 6)", x.punch(0, 4, 6), 4);
        DUE.is("its holes", holesOn(x, 3), "4 6 8 9");
        DUE.is("punch(0, 4, 6) again", x.punch(0, 4, 6), 0);
        DUE.is("punch(0, 4, 7)", x.punch(0, 4, 7), 1);
        DUE.is("punch(0, 9, 1)", x.punch(0, 9, 1), 0);
        DUE.is("its holes", holesOn(x, 3), "4 6 8 9 10");
        DUE.is("punch(NONE, 90, 5)", x.punch(RollPunch.NONE, 90, 5), 3);
        DUE.is("the pedal's holes", holesOn(x, 2), "90 92 94");
        DUE.is("punch(19, 95, 1)", x.punch(19, 95, 1), 1);
        DUE.is("its holes", holesOn(x, 22), "95");
        DUE.is("count(14)", x.count(14), 6);
        x.set(0, 0);
        DUE.is("bridge 0: punch(5, 10, 3)", x.punch(5, 10, 3), 3);
        DUE.is("its holes", holesOn(x, 8), "10 11 12");
        x.set(0, 2);
        DUE.is("bridge 2: punch(6, 20, 7)", x.punch(6, 20, 7), 3);
        DUE.is("its holes", holesOn(x, 9), "20 23 26");
        DUE.is("bridge 2: punch(7, 20, 8)", x.punch(7, 20, 8), 4);
        DUE.is("its holes", holesOn(x, 10), "20 23 26 27");
        DUE.is("bridge 2: punch(8, 20, 2)", x.punch(8, 20, 2), 2);
        DUE.is("its holes", holesOn(x, 11), "20 21");
        x.set(0, 3);
        DUE.is("bridge 3: punch(18, 0, 96)", x.punch(18, 0, 96), 25);
        DUE.is("bridge 3: punch(17, 0, 93)", x.punch(17, 0, 93), 24);
    }

    private static void punchUnderPatches() {
        RollPunch x = new RollPunch();
        x.punch(1, 0, 3);
        DUE.is("patch(4, 0, 3)", x.patch(4, 0, 3), 2);
        DUE.is("its holes", holesOn(x, 4), "0* 2*");
        DUE.is("punch(1, 2, 1)", x.punch(1, 2, 1), 0);
        DUE.is("its holes", holesOn(x, 4), "0* 2");
        DUE.is("count(1)", x.count(1), 1);
        DUE.is("count(2)", x.count(2), 3);
        DUE.is("punch(1, 3, 1)", x.punch(1, 3, 1), 1);
        DUE.is("count(2)", x.count(2), 2);
        DUE.is("punch(1, 0, 3)", x.punch(1, 0, 3), 0);
        DUE.is("the patch between", x.place(1, 4, 1), 1);
        DUE.is("its holes", holesOn(x, 4), "0 2 3");
        x.tear(0, 95, 2);
        x.steer(0, 95, 1);
        DUE.is("punch(2, 50, 1)", x.punch(2, 50, 1), 1);
        DUE.is("on the own track", holesOn(x, 5), "50");
    }

    private static void punchErrors() {
        RollPunch x = new RollPunch();
        x.punch(0, 0, 2);
        long before = x.digest();
        int[] notes = {-2, 20, LOW, HIGH};
        int[] beyond = {-1, 96, LOW, HIGH};
        int[] lengths = {0, -1, 97, LOW, HIGH};
        for (int k : notes) {
            DUE.bounds("punch(" + k + ", 0, 1)", () -> x.punch(k, 0, 1));
            DUE.bounds("punch(" + k + ", 95, 2)", () -> x.punch(k, 95, 2));
        }
        for (int k : beyond) {
            DUE.bounds("punch(0, " + k + ", 1)", () -> x.punch(0, k, 1));
            DUE.bounds("punch(0, " + k + ", 0)", () -> x.punch(0, k, 0));
        }
        for (int k : lengths) {
            DUE.argument("punch(0, 0, " + k + ")", () -> x.punch(0, 0, k));
            DUE.argument("punch(0, 95, " + k + ")", () -> x.punch(0, 95, k));
        }
        DUE.state("punch(0, 95, 2)", () -> x.punch(0, 95, 2));
        DUE.state("punch(0, 1, 96)", () -> x.punch(0, 1, 96));
        DUE.state("punch(-1, 90, 7)", () -> x.punch(-1, 90, 7));
        DUE.is("digest()", x.digest(), before);
        DUE.is("punch(0, 90, 6)", x.punch(0, 90, 6), 4);
        DUE.is("undo()", x.undo(), 1);
        DUE.is("digest() after undo", x.digest(), before);
    }

    private static void patchAndPeel() {
        RollPunch x = new RollPunch();
        x.punch(0, 10, 5);
        DUE.is("patch(3, 11, 13)", x.patch(3, 11, 13), 1);
        DUE.is("counts", x.count(0) + " " + x.count(1) + " " + x.count(2), "3 2 3");
        DUE.is("patch(3, 12, 14)", x.patch(3, 12, 14), 1);
        DUE.is("counts", x.count(0) + " " + x.count(1) + " " + x.count(2), "3 1 4");
        DUE.is("played", Due.played(x), "0 10 10 10 1 0");
        DUE.is("patch(3, 12, 12) again", x.patch(3, 12, 12), 0);
        DUE.is("patch(0, 0, 95)", x.patch(0, 0, 95), 0);
        DUE.is("patch(25, 95, 95)", x.patch(25, 95, 95), 0);
        DUE.is("count(2)", x.count(2), 4 + 96 + 1);
        DUE.is("place(95, 25, 1)", x.place(95, 25, 1), 1);
        DUE.is("peel(0, 1, 94)", x.peel(0, 1, 94), 94);
        DUE.is("peel(0, 0, 95)", x.peel(0, 0, 95), 2);
        DUE.is("peel(25, 0, 94)", x.peel(25, 0, 94), 0);
        DUE.is("peel(25, 95, 95)", x.peel(25, 95, 95), 1);
        DUE.is("peel(3, 13, 14)", x.peel(3, 13, 14), 2);
        DUE.is("counts", x.count(0) + " " + x.count(1) + " " + x.count(2), "3 2 2");
        DUE.is("played", Due.played(x), "0 10 10 10 1 0, 0 14 14 14 1 0");
        DUE.is("undo() of peel", x.undo(), 5);
        DUE.is("count(2)", x.count(2), 4);
        DUE.is("peel(3, 0, 95)", x.peel(3, 0, 95), 4);
        DUE.is("played", Due.played(x), "0 10 14 14 3 0");
        x.patch(3, 0, 95);
        DUE.is("played", Due.played(x), "");
        x.undo();
        DUE.is("played after undo of patch", Due.played(x), "0 10 14 14 3 0");
    }

    private static void patchErrors() {
        RollPunch x = new RollPunch();
        x.punch(0, 10, 5);
        x.patch(3, 10, 10);
        long before = x.digest();
        int[] tracks = {-1, 26, LOW, HIGH};
        int[] beyond = {-1, 96, LOW, HIGH};
        for (int k : tracks) {
            DUE.bounds("patch(" + k + ", 0, 0)", () -> x.patch(k, 0, 0));
            DUE.bounds("patch(" + k + ", 1, 0)", () -> x.patch(k, 1, 0));
            DUE.bounds("peel(" + k + ", 0, 0)", () -> x.peel(k, 0, 0));
            DUE.bounds("peel(" + k + ", 1, 0)", () -> x.peel(k, 1, 0));
        }
        for (int k : beyond) {
            DUE.bounds("patch(0, " + k + ", 0)", () -> x.patch(0, k, 0));
            DUE.bounds("patch(0, 5, " + k + ")", () -> x.patch(0, 5, k));
            DUE.bounds("peel(0, " + k + ", 0)", () -> x.peel(0, k, 0));
            DUE.bounds("peel(0, 5, " + k + ")", () -> x.peel(0, 5, k));
        }
        DUE.argument("patch(3, 10, 9)", () -> x.patch(3, 10, 9));
        DUE.argument("patch(0, 95, 0)", () -> x.patch(0, 95, 0));
        DUE.argument("peel(3, 11, 10)", () -> x.peel(3, 11, 10));
        DUE.argument("peel(0, 95, 0)", () -> x.peel(0, 95, 0));
        DUE.is("digest()", x.digest(), before);
    }

    private static void shift() {
        RollPunch x = new RollPunch();
        x.punch(4, 10, 5);
        x.punch(4, 30, 1);
        x.patch(7, 12, 12);
        x.learn();
        DUE.is("tune", Due.tune(x), "4 10 10 0, 4 14 14 0, 4 30 30 0");
        DUE.is("shift(0)", x.shift(0), 3);
        DUE.is("shift(2)", x.shift(2), 0);
        DUE.is("its holes", holesOn(x, 9), "10 12* 14 30");
        DUE.is("holes before", holesOn(x, 7), "");
        DUE.is("patch before", x.place(12, 7, 1), 0);
        DUE.is("played", Due.played(x), "6 10 10 10 1 0, 6 14 14 14 1 0, 6 30 30 30 1 0");
        DUE.is("shift(-3)", x.shift(-3), 0);
        DUE.is("its holes", holesOn(x, 6), "10 12* 14 30");
        DUE.is("count(14)", x.count(14), 6);
        DUE.is("shift(1)", x.shift(1), 3);
        DUE.is("undo()", x.undo(), 5);
        DUE.is("count(5)", x.count(5), 0);
        int[] beyond = {-4, 4, LOW, HIGH};
        for (int k : beyond) {
            DUE.argument("shift(" + k + ")", () -> x.shift(k));
        }
    }

    private static void shiftToTheBorders() {
        RollPunch x = new RollPunch();
        x.punch(19, 0, 1);
        DUE.is("shift(3)", x.shift(3), 0);
        DUE.is("place(0, 25, 0)", x.place(0, 25, 0), 1);
        for (int by = 1; by <= 3; by++) {
            int k = by;
            DUE.state("shift(" + k + ")", () -> x.shift(k));
        }
        DUE.is("count(14)", x.count(14), 2);
        DUE.is("shift(0)", x.shift(0), 0);
        RollPunch y = new RollPunch();
        y.punch(RollPunch.NONE, 95, 1);
        y.patch(2, 95, 95);
        DUE.state("shift(-3) of a hole below a patch", () -> y.shift(-3));
        DUE.is("shift(-2)", y.shift(-2), 0);
        DUE.is("place(95, 0, 0)", y.place(95, 0, 0), 1);
        DUE.is("place(95, 0, 1)", y.place(95, 0, 1), 1);
        DUE.state("shift(-1)", () -> y.shift(-1));
        RollPunch z = new RollPunch();
        z.patch(25, 3, 3);
        DUE.state("shift(1) of a patch alone", () -> z.shift(1));
        z.undo();
        z.patch(0, 3, 3);
        DUE.state("shift(-1) of a patch alone", () -> z.shift(-1));
        DUE.argument("shift(-4)", () -> z.shift(-4));
        DUE.is("shift(3)", z.shift(3), 0);
        DUE.is("place(3, 3, 1)", z.place(3, 3, 1), 1);
    }

    public static void main(String[] args) {
        newObject();
        punch();
        punchUnderPatches();
        punchErrors();
        patchAndPeel();
        patchErrors();
        shift();
        shiftToTheBorders();
        DUE.end();
    }
}
