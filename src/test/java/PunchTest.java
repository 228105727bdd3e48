import java.util.Map;

/** Promises 1 to 5: a new object, punch, patch, peel, shift. */
public final class PunchTest {
    private static final Due DUE = new Due("PunchTest");
    private static final int LOW = Integer.MIN_VALUE;
    private static final int HIGH = Integer.MAX_VALUE;
    private static final Script EMPTY = new Script();

    private static void newObject() {
        DUE.is("NONE", RollPunch.NONE, -1);
        for (Map.Entry<String, Long> answer : EMPTY.picture().entrySet()) {
            String call = answer.getKey();
            if (!call.equals("setting(0)") && !call.equals("setting(1)") && !call.equals("digest()")
                    && !call.endsWith(", 2)")) {
                DUE.is(call, answer.getValue(), 0);
            }
        }
        RollPunch x = new RollPunch();
        DUE.is("setting(0)", x.setting(0), 1);
        DUE.is("setting(1)", x.setting(1), 2);
        DUE.bounds("played(0, 0)", () -> x.played(0, 0));
        DUE.bounds("tune(0, 0)", () -> x.tune(0, 0));
        DUE.argument("punchAll()", () -> x.punchAll());
        DUE.state("undo()", () -> x.undo());
        DUE.is("firstError()", x.firstError(), 0);
        DUE.is("clearBuffer()", x.clearBuffer(), 0);
        DUE.is("learn()", x.learn(), 0);
        DUE.isExactly("tuneShare()", new RollPunch().tuneShare(), 0.0);
        for (int s = 0; s < 96; s++) {
            RollPunch y = new RollPunch();
            DUE.is("step(" + s + ", 2)", y.step(s, 2), 0);
            for (int t = 0; t < 26; t++) {
                int note = t == 2 ? -2 : t > 2 && t < 23 ? t - 3 : -1;
                DUE.is("place(" + s + ", " + t + ", 2)", y.place(s, t, 2), note);
            }
        }
    }

    // Objects know nothing of each other.
    private static void objectsApart() {
        long digest = new RollPunch().digest();
        RollPunch x = new RollPunch();
        RollPunch y = new RollPunch();
        x.punch(0, 0, 96);
        x.learn();
        x.append('p');
        x.set(0, 3);
        x.tear(0, 95, 3);
        DUE.is("digest() of another one", y.digest(), digest);
        DUE.is("digest() of a new one", new RollPunch().digest(), digest);
        DUE.state("undo() of another one", () -> y.undo());
    }

    private static String holesOn(RollPunch x, int track) {
        StringBuilder row = new StringBuilder();
        for (int s = 0; s < 96; s++) {
            if (x.place(s, track, 0) == 1) {
                row.append(row.length() > 0 ? " " : "").append(s).append(x.place(s, track, 1) == 1 ? "*" : "");
            }
        }
        return row.toString();
    }

    private static void punch() {
        RollPunch x = new RollPunch();
        DUE.is("punch(0, 4, 6)", x.punch(0, 4, 6), 4);
        DUE.is("its holes", holesOn(x, 3), "4 6 8 9");
        DUE.is("punch(0, 4, 6) again", x.punch(0, 4, 6), 0);
        DUE.is("punch(0, 4, 7)", x.punch(0, 4, 7), 1);
        DUE.is("punch(0, 9, 1)", x.punch(0, 9, 1), 0);
        DUE.is("its holes", holesOn(x, 3), "4 6 8 9 10");
        DUE.is("punch(NONE, 90, 5)", x.punch(RollPunch.NONE, 90, 5), 3);
        DUE.is("the pedal's holes", holesOn(x, 2), "90 92 94");
        DUE.is("punch(19, 95, 1)", x.punch(19, 95, 1), 1);
        DUE.is("its holes", holesOn(x, 22), "95");
        DUE.is("count(14)", x.count(14), 6);
    }

    // "At the first step, then at each step that is as many steps later as setting 0 tells and one
    // more, within the length, and at the last step of the length."
    private static void punchByBridge() {
        String[][] due = {
            {"5", "5 6", "5 6 7", "5 6 7 8", "5 6 7 8 9"},
            {"5", "5 6", "5 7", "5 7 8", "5 7 9", "5 7 9 10", "5 7 9 11"},
            {"5", "5 6", "5 7", "5 8", "5 8 9", "5 8 10", "5 8 11", "5 8 11 12"},
            {"5", "5 6", "5 7", "5 8", "5 9", "5 9 10", "5 9 11", "5 9 12", "5 9 13", "5 9 13 14"}};
        for (int bridge = 0; bridge <= 3; bridge++) {
            for (int length = 1; length <= due[bridge].length; length++) {
                RollPunch x = new RollPunch();
                x.set(0, bridge);
                String holes = due[bridge][length - 1];
                String call = "punch(6, 5, " + length + "), bridge " + bridge;
                DUE.is(call, x.punch(6, 5, length), holes.split(" ").length);
                DUE.is("holes of " + call, holesOn(x, 9), holes);
                DUE.is("chains of " + call, x.count(3), 1);
                DUE.is("last step of " + call, x.played(0, 2), 4 + length);
            }
            int[] most = {96, 49, 33, 25};
            for (int note = -1; note <= 19; note++) {
                RollPunch x = new RollPunch();
                x.set(0, bridge);
                DUE.is("punch(" + note + ", 0, 96), bridge " + bridge, x.punch(note, 0, 96), most[bridge]);
                DUE.is("the first hole", x.place(0, note == -1 ? 2 : note + 3, 0), 1);
                DUE.is("the last hole", x.place(95, note == -1 ? 2 : note + 3, 0), 1);
                DUE.is("all holes", x.count(0), most[bridge]);
            }
        }
    }

    // "Where there is a patch at one of these places, it is taken away": at no other one.
    private static void punchTakesPatches() {
        RollPunch x = new RollPunch();
        x.patch(4, 0, 95);
        DUE.is("punch(1, 10, 6)", x.punch(1, 10, 6), 4);
        DUE.is("count(2)", x.count(2), 92);
        DUE.is("its holes", holesOn(x, 4), "10 12 14 15");
        int[] left = {9, 11, 13, 16};
        for (int s : left) {
            DUE.is("the patch at " + s, x.place(s, 4, 1), 1);
        }
        DUE.is("count(3)", x.count(3), 1);
        x.patch(5, 10, 15);
        x.patch(3, 10, 15);
        DUE.is("punch(1, 10, 6) again", x.punch(1, 10, 6), 0);
        DUE.is("patches beside it", x.count(2), 92 + 12);
        RollPunch y = new RollPunch();
        y.punch(1, 10, 6);
        DUE.is("patch(4, 12, 95)", y.patch(4, 12, 95), 3);
        DUE.is("punch(1, 10, 3): one open, one below a patch", y.punch(1, 10, 3), 0);
        DUE.is("punch(1, 14, 3): one below a patch, one new", y.punch(1, 14, 3), 1);
        DUE.is("its holes", holesOn(y, 4), "10 12 14 15* 16");
        DUE.is("count(2)", y.count(2), 84 - 3);
        RollPunch z = new RollPunch();
        z.punch(RollPunch.NONE, 0, 96);
        z.patch(2, 0, 0);
        z.patch(2, 95, 95);
        DUE.is("punch(NONE, 0, 1) below a patch", z.punch(RollPunch.NONE, 0, 1), 0);
        DUE.is("punch(NONE, 95, 1) below a patch", z.punch(RollPunch.NONE, 95, 1), 0);
        DUE.is("count(2)", z.count(2), 0);
    }

    // The own track is meant, whatever is read at these steps.
    private static void punchOwnTrack() {
        for (int aside = -3; aside <= 3; aside++) {
            RollPunch x = new RollPunch();
            x.tear(0, 95, aside);
            x.steer(0, 95, aside);
            DUE.is("punch(NONE, 0, 1)", x.punch(RollPunch.NONE, 0, 1), 1);
            DUE.is("punch(19, 95, 1)", x.punch(19, 95, 1), 1);
            DUE.is("on track 2", x.step(0, 6), 1 << 2);
            DUE.is("on track 22", x.step(95, 6), 1 << 22);
        }
    }

    // All the holes that there can be: tracks 2 to 25 at each step.
    private static void fullOfHoles() {
        Script full = EMPTY.then(x -> x.set(0, 0));
        for (int note = -1; note <= 19; note++) {
            int n = note;
            full = full.then(x -> x.punch(n, 0, 96));
        }
        DUE.is("holes on all own tracks", full.ask(x -> x.count(0)), 21 * 96);
        DUE.is("notes", full.ask(x -> x.count(3)), 20);
        full = full.then(x -> x.shift(3), x -> x.punch(-1, 0, 96), x -> x.punch(0, 0, 96), x -> x.punch(1, 0, 96));
        DUE.is("holes", full.ask(x -> x.count(0)), 24 * 96);
        DUE.is("open holes at the last step", full.ask(x -> x.step(95, 6)), (1 << 26) - 4);
        DUE.is("those that are not read", full.ask(x -> x.count(12)), 3 * 96);
        DUE.is("punch(1, 0, 96) once more", full.ask(x -> x.punch(1, 0, 96)), 0);
        DUE.is("holes of wrong notes", full.ask(x -> x.count(11)), 20 * 96);
        DUE.is("shift(0)", full.ask(x -> x.shift(0)), 0);
        RollPunch y = full.play();
        DUE.state("shift(1)", () -> y.shift(1));
        DUE.is("shift(-2)", y.shift(-2), 0);
        DUE.state("shift(-1)", () -> y.shift(-1));
        DUE.is("patch(0, 0, 95)", y.patch(0, 0, 95), 96);
        DUE.is("patch(23, 0, 95)", y.patch(23, 0, 95), 96);
        DUE.is("patch(24, 0, 95)", y.patch(24, 0, 95), 0);
        DUE.is("open holes", y.count(1), 22 * 96);
    }

    // All the patches that there can be: 26 tracks at each of 96 steps.
    private static void fullOfPatches() {
        Script full = EMPTY;
        for (int track = 0; track < 26; track++) {
            int t = track;
            full = full.then(x -> x.patch(t, 0, 95));
        }
        DUE.is("patches", full.ask(x -> x.count(2)), 26 * 96);
        DUE.is("holes", full.ask(x -> x.count(0)), 0);
        DUE.is("patch(13, 0, 95) once more", full.ask(x -> x.patch(13, 0, 95)), 0);
        DUE.is("patches then", full.then(x -> x.patch(13, 0, 95)).ask(x -> x.count(2)), 26 * 96);
        DUE.is("peel(13, 0, 95)", full.ask(x -> x.peel(13, 0, 95)), 96);
        DUE.is("punch(10, 0, 96)", full.ask(x -> x.punch(10, 0, 96)), 49);
        DUE.is("patches then", full.then(x -> x.punch(10, 0, 96)).ask(x -> x.count(2)), 26 * 96 - 49);
        DUE.is("shift(0)", full.ask(x -> x.shift(0)), 0);
        RollPunch y = full.play();
        DUE.state("shift(1)", () -> y.shift(1));
        DUE.state("shift(-1)", () -> y.shift(-1));
    }

    private static void punchUnderPatches() {
        RollPunch x = new RollPunch();
        x.punch(1, 0, 3);
        DUE.is("patch(4, 0, 3)", x.patch(4, 0, 3), 2);
        DUE.is("its holes", holesOn(x, 4), "0* 2*");
        DUE.is("punch(1, 2, 1)", x.punch(1, 2, 1), 0);
        DUE.is("its holes", holesOn(x, 4), "0* 2");
        DUE.is("count(1)", x.count(1), 1);
        DUE.is("count(2)", x.count(2), 3);
        DUE.is("punch(1, 3, 1)", x.punch(1, 3, 1), 1);
        DUE.is("count(2)", x.count(2), 2);
        DUE.is("punch(1, 0, 3)", x.punch(1, 0, 3), 0);
        DUE.is("the patch between", x.place(1, 4, 1), 1);
        DUE.is("its holes", holesOn(x, 4), "0 2 3");
        x.tear(0, 95, 2);
        x.steer(0, 95, 1);
        DUE.is("punch(2, 50, 1)", x.punch(2, 50, 1), 1);
        DUE.is("on the own track", holesOn(x, 5), "50");
    }

    private static void punchErrors() {
        RollPunch x = new RollPunch();
        x.punch(0, 0, 2);
        long before = x.digest();
        int[] notes = {-2, 20, LOW, HIGH};
        int[] beyond = {-1, 96, LOW, HIGH};
        int[] lengths = {0, -1, 97, LOW, HIGH};
        for (int k : notes) {
            DUE.bounds("punch(" + k + ", 0, 1)", () -> x.punch(k, 0, 1));
            DUE.bounds("punch(" + k + ", 95, 2)", () -> x.punch(k, 95, 2));
        }
        for (int k : beyond) {
            DUE.bounds("punch(0, " + k + ", 1)", () -> x.punch(0, k, 1));
            DUE.bounds("punch(0, " + k + ", 0)", () -> x.punch(0, k, 0));
        }
        for (int k : lengths) {
            DUE.argument("punch(0, 0, " + k + ")", () -> x.punch(0, 0, k));
            DUE.argument("punch(0, 95, " + k + ")", () -> x.punch(0, 95, k));
        }
        DUE.state("punch(0, 95, 2)", () -> x.punch(0, 95, 2));
        DUE.state("punch(0, 1, 96)", () -> x.punch(0, 1, 96));
        DUE.state("punch(-1, 90, 7)", () -> x.punch(-1, 90, 7));
        DUE.is("digest()", x.digest(), before);
        DUE.is("punch(0, 90, 6)", x.punch(0, 90, 6), 4);
        DUE.is("undo()", x.undo(), 1);
        DUE.is("digest() after undo", x.digest(), before);
    }

    private static void patchAndPeel() {
        RollPunch x = new RollPunch();
        x.punch(0, 10, 5);
        DUE.is("patch(3, 11, 13)", x.patch(3, 11, 13), 1);
        DUE.is("counts", x.count(0) + " " + x.count(1) + " " + x.count(2), "3 2 3");
        DUE.is("patch(3, 12, 14)", x.patch(3, 12, 14), 1);
        DUE.is("counts", x.count(0) + " " + x.count(1) + " " + x.count(2), "3 1 4");
        DUE.is("played", Due.played(x), "0 10 10 10 1 0");
        DUE.is("patch(3, 12, 12) again", x.patch(3, 12, 12), 0);
        DUE.is("patch(0, 0, 95)", x.patch(0, 0, 95), 0);
        DUE.is("patch(25, 95, 95)", x.patch(25, 95, 95), 0);
        DUE.is("count(2)", x.count(2), 4 + 96 + 1);
        DUE.is("place(95, 25, 1)", x.place(95, 25, 1), 1);
        DUE.is("peel(0, 1, 94)", x.peel(0, 1, 94), 94);
        DUE.is("peel(0, 0, 95)", x.peel(0, 0, 95), 2);
        DUE.is("peel(25, 0, 94)", x.peel(25, 0, 94), 0);
        DUE.is("peel(25, 95, 95)", x.peel(25, 95, 95), 1);
        DUE.is("peel(3, 13, 14)", x.peel(3, 13, 14), 2);
        DUE.is("counts", x.count(0) + " " + x.count(1) + " " + x.count(2), "3 2 2");
        DUE.is("played", Due.played(x), "0 10 10 10 1 0, 0 14 14 14 1 0");
        DUE.is("undo() of peel", x.undo(), 5);
        DUE.is("count(2)", x.count(2), 4);
        DUE.is("peel(3, 0, 95)", x.peel(3, 0, 95), 4);
        DUE.is("played", Due.played(x), "0 10 14 14 3 0");
        x.patch(3, 0, 95);
        DUE.is("played", Due.played(x), "");
        x.undo();
        DUE.is("played after undo of patch", Due.played(x), "0 10 14 14 3 0");
    }

    // "One on each step from one to another one, where there is none": neither beside it nor twice.
    private static void patchBorders() {
        Script row = EMPTY.then(x -> x.set(0, 0), x -> x.punch(1, 0, 96));
        DUE.is("patch(4, 0, 0)", row.ask(x -> x.patch(4, 0, 0)), 1);
        DUE.is("patch(4, 95, 95)", row.ask(x -> x.patch(4, 95, 95)), 1);
        DUE.is("patch(4, 0, 95)", row.ask(x -> x.patch(4, 0, 95)), 96);
        DUE.is("patch(5, 0, 95)", row.ask(x -> x.patch(5, 0, 95)), 0);
        Script some = row.then(x -> x.patch(4, 10, 20));
        DUE.is("played", Due.played(some.play()), "1 0 9 9 10 0, 1 21 95 95 75 0");
        DUE.is("count(2)", some.ask(x -> x.count(2)), 11);
        DUE.is("patch(4, 10, 20) again", some.ask(x -> x.patch(4, 10, 20)), 0);
        DUE.is("patch(4, 9, 20)", some.ask(x -> x.patch(4, 9, 20)), 1);
        DUE.is("patch(4, 10, 21)", some.ask(x -> x.patch(4, 10, 21)), 1);
        DUE.is("patch(4, 0, 95) over some", some.ask(x -> x.patch(4, 0, 95)), 85);
        DUE.is("the holes stay below", some.then(x -> x.patch(4, 0, 95)).ask(x -> x.count(0)), 96);
        DUE.is("a hole that is not read is open", EMPTY.then(x -> x.punch(19, 3, 1), x -> x.shift(3))
                .ask(x -> x.patch(25, 3, 3)), 1);
    }

    private static void peelBorders() {
        Script row = EMPTY.then(x -> x.set(0, 0), x -> x.punch(1, 0, 96), x -> x.patch(4, 10, 20));
        DUE.is("peel(4, 0, 9)", row.ask(x -> x.peel(4, 0, 9)), 0);
        DUE.is("peel(4, 21, 95)", row.ask(x -> x.peel(4, 21, 95)), 0);
        DUE.is("peel(4, 0, 10)", row.ask(x -> x.peel(4, 0, 10)), 1);
        DUE.is("peel(4, 20, 95)", row.ask(x -> x.peel(4, 20, 95)), 1);
        DUE.is("peel(4, 0, 95)", row.ask(x -> x.peel(4, 0, 95)), 11);
        DUE.is("peel(3, 0, 95)", row.ask(x -> x.peel(3, 0, 95)), 0);
        DUE.is("peel(5, 0, 95)", row.ask(x -> x.peel(5, 0, 95)), 0);
        DUE.is("played", Due.played(row.then(x -> x.peel(4, 11, 19)).play()),
                "1 0 9 9 10 0, 1 11 19 19 9 0, 1 21 95 95 75 0");
        DUE.is("all is open again", Due.played(row.then(x -> x.peel(4, 10, 20)).play()), "1 0 95 95 96 0");
        DUE.is("peel(0, 0, 95) of nothing", EMPTY.ask(x -> x.peel(0, 0, 95)), 0);
        Script ends = EMPTY.then(x -> x.patch(0, 0, 0), x -> x.patch(25, 95, 95));
        DUE.is("peel(0, 0, 0)", ends.ask(x -> x.peel(0, 0, 0)), 1);
        DUE.is("peel(25, 95, 95)", ends.ask(x -> x.peel(25, 95, 95)), 1);
        DUE.is("a patch without a hole leaves none", ends.then(x -> x.peel(0, 0, 0)).ask(x -> x.count(0)), 0);
    }

    private static void patchErrors() {
        RollPunch x = new RollPunch();
        x.punch(0, 10, 5);
        x.patch(3, 10, 10);
        long before = x.digest();
        int[] tracks = {-1, 26, LOW, HIGH};
        int[] beyond = {-1, 96, LOW, HIGH};
        for (int k : tracks) {
            DUE.bounds("patch(" + k + ", 0, 0)", () -> x.patch(k, 0, 0));
            DUE.bounds("patch(" + k + ", 1, 0)", () -> x.patch(k, 1, 0));
            DUE.bounds("peel(" + k + ", 0, 0)", () -> x.peel(k, 0, 0));
            DUE.bounds("peel(" + k + ", 1, 0)", () -> x.peel(k, 1, 0));
        }
        for (int k : beyond) {
            DUE.bounds("patch(0, " + k + ", 0)", () -> x.patch(0, k, 0));
            DUE.bounds("patch(0, 5, " + k + ")", () -> x.patch(0, 5, k));
            DUE.bounds("peel(0, " + k + ", 0)", () -> x.peel(0, k, 0));
            DUE.bounds("peel(0, 5, " + k + ")", () -> x.peel(0, 5, k));
        }
        DUE.argument("patch(3, 10, 9)", () -> x.patch(3, 10, 9));
        DUE.argument("patch(0, 95, 0)", () -> x.patch(0, 95, 0));
        DUE.argument("peel(3, 11, 10)", () -> x.peel(3, 11, 10));
        DUE.argument("peel(0, 95, 0)", () -> x.peel(0, 95, 0));
        DUE.is("digest()", x.digest(), before);
    }

    private static void shift() {
        RollPunch x = new RollPunch();
        x.punch(4, 10, 5);
        x.punch(4, 30, 1);
        x.patch(7, 12, 12);
        x.learn();
        DUE.is("tune", Due.tune(x), "4 10 10 0, 4 14 14 0, 4 30 30 0");
        DUE.is("shift(0)", x.shift(0), 3);
        DUE.is("shift(2)", x.shift(2), 0);
        DUE.is("its holes", holesOn(x, 9), "10 12* 14 30");
        DUE.is("holes before", holesOn(x, 7), "");
        DUE.is("patch before", x.place(12, 7, 1), 0);
        DUE.is("played", Due.played(x), "6 10 10 10 1 0, 6 14 14 14 1 0, 6 30 30 30 1 0");
        DUE.is("shift(-3)", x.shift(-3), 0);
        DUE.is("its holes", holesOn(x, 6), "10 12* 14 30");
        DUE.is("count(14)", x.count(14), 6);
        DUE.is("shift(1)", x.shift(1), 3);
        DUE.is("undo()", x.undo(), 5);
        DUE.is("count(5)", x.count(5), 0);
        int[] beyond = {-4, 4, LOW, HIGH};
        for (int k : beyond) {
            DUE.argument("shift(" + k + ")", () -> x.shift(k));
        }
    }

    private static void shiftToTheBorders() {
        RollPunch x = new RollPunch();
        x.punch(19, 0, 1);
        DUE.is("shift(3)", x.shift(3), 0);
        DUE.is("place(0, 25, 0)", x.place(0, 25, 0), 1);
        for (int by = 1; by <= 3; by++) {
            int k = by;
            DUE.state("shift(" + k + ")", () -> x.shift(k));
        }
        DUE.is("count(14)", x.count(14), 2);
        DUE.is("shift(0)", x.shift(0), 0);
        RollPunch y = new RollPunch();
        y.punch(RollPunch.NONE, 95, 1);
        y.patch(2, 95, 95);
        DUE.state("shift(-3) of a hole below a patch", () -> y.shift(-3));
        DUE.is("shift(-2)", y.shift(-2), 0);
        DUE.is("place(95, 0, 0)", y.place(95, 0, 0), 1);
        DUE.is("place(95, 0, 1)", y.place(95, 0, 1), 1);
        DUE.state("shift(-1)", () -> y.shift(-1));
        RollPunch z = new RollPunch();
        z.patch(25, 3, 3);
        DUE.state("shift(1) of a patch alone", () -> z.shift(1));
        z.undo();
        z.patch(0, 3, 3);
        DUE.state("shift(-1) of a patch alone", () -> z.shift(-1));
        DUE.argument("shift(-4)", () -> z.shift(-4));
        DUE.is("shift(3)", z.shift(3), 0);
        DUE.is("place(3, 3, 1)", z.place(3, 3, 1), 1);
    }

    // Holes and patches that are at both borders can only stay where they are.
    private static void shiftBetweenBorders() {
        Script both = EMPTY.then(x -> x.punch(RollPunch.NONE, 4, 1), x -> x.shift(-2), x -> x.patch(25, 4, 4));
        DUE.is("shift(0)", both.ask(x -> x.shift(0)), 0);
        DUE.same("shift(0) and undo()", both.then(x -> x.shift(0)).undone(1).picture(), both.picture());
        RollPunch x = both.play();
        for (int by = -3; by <= 3; by++) {
            int k = by;
            if (k != 0) {
                DUE.state("shift(" + k + ")", () -> x.shift(k));
            }
        }
        Script pair = EMPTY.then(y -> y.punch(0, 0, 1), y -> y.punch(19, 95, 1), y -> y.learn(), y -> y.shift(3));
        DUE.is("shift(-3)", pair.ask(y -> y.shift(-3)), 2);
        DUE.is("there and back", pair.then(y -> y.shift(-3), y -> y.shift(-3)).ask(y -> y.shift(3)), 2);
        DUE.is("there and back by less", pair.then(y -> y.shift(-2)).ask(y -> y.shift(-1)), 2);
        Script patch = EMPTY.then(y -> y.patch(22, 95, 95), y -> y.shift(3));
        DUE.is("a patch on track 25", patch.ask(y -> y.place(95, 25, 1)), 1);
        DUE.is("and none on track 22", patch.ask(y -> y.place(95, 22, 1)), 0);
        Script low = EMPTY.then(y -> y.patch(3, 0, 0), y -> y.shift(-3));
        DUE.is("a patch on track 0", low.ask(y -> y.place(0, 0, 1)), 1);
        DUE.is("edges and steering stay", EMPTY.then(y -> y.tear(5, 5, 2), y -> y.steer(5, 5, -1), y -> y.shift(3))
                .ask(y -> 10 * y.step(5, 0) + y.step(5, 1)), 19);
        DUE.is("the tune stays", pair.ask(y -> y.tune(0, 0) + y.tune(1, 0)), 19);
    }

    public static void main(String[] args) {
        newObject();
        objectsApart();
        punch();
        punchByBridge();
        punchTakesPatches();
        punchOwnTrack();
        punchUnderPatches();
        punchErrors();
        fullOfHoles();
        fullOfPatches();
        patchAndPeel();
        patchBorders();
        peelBorders();
        patchErrors();
        shift();
        shiftToTheBorders();
        shiftBetweenBorders();
        DUE.end();
    }
}
