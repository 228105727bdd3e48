/**
 * Calls that are refused: each exception that a call can throw, the one that is named first where
 * several apply, and that nothing has changed behind it, in what is there, in what is saved and in
 * the buffer.
 */
public final class RefusedTest {
    private static final Due DUE = new Due("RefusedTest");
    private static final Class<?> BOUNDS = IndexOutOfBoundsException.class;
    private static final Class<?> ARGUMENT = IllegalArgumentException.class;
    private static final Class<?> STATE = IllegalStateException.class;
    private static final int NONE = RollPunch.NONE;
    private static final int LOW = Integer.MIN_VALUE;
    private static final int HIGH = Integer.MAX_VALUE;

    private static final Script EMPTY = new Script();
    // Right, wrong and missing notes, holes below patches, edges at both ends of their range,
    // steering, tracks 0 and 25 in use, a buffer of some characters, and four saved states.
    private static final Script BUSY = EMPTY
            .then(x -> x.set(1, 4), x -> x.punch(0, 10, 5), x -> x.punch(0, 20, 2), x -> x.punch(19, 21, 3))
            .then(x -> x.punch(NONE, 12, 12), x -> x.learn(), x -> x.punch(0, 22, 1), x -> x.punch(8, 0, 1))
            .then(x -> x.patch(3, 12, 13), x -> x.patch(0, 95, 95), x -> x.patch(25, 94, 94))
            .then(x -> x.steer(10, 11, -2), x -> x.set(0, 2), x -> x.tear(30, 35, 3), x -> x.tear(40, 45, -3))
            .then(x -> x.steer(15, 60, 0), x -> x.tear(46, 46, -3))
            .undone(2)
            .write("p@9:6,3");
    private static final Script FULL_SHELF = BUSY
            .then(x -> x.punch(4, 4, 4), x -> x.tear(50, 51, 2), x -> x.patch(7, 4, 5), x -> x.steer(3, 3, 3));
    private static final Script FULL_BUFFER = BUSY.then(x -> x.clearBuffer()).write("7@7:7,".repeat(10));

    private static void refused(String call, Class<?> kind, Script before, Script.Made made) {
        RollPunch x = before.play();
        DUE.throwsJust(call, kind, () -> made.on(x));
        DUE.throwsJust(call + " again", kind, () -> made.on(x));
        Script behind = before.tried(made);
        DUE.same("behind " + call, behind.picture(), before.picture());
        for (int left = (int) before.ask(y -> y.count(14)); left > 0; left--) {
            int undone = left;
            DUE.is("digest() behind " + call + " and " + undone + " undo()",
                    behind.undone(undone).ask(y -> y.digest()), before.undone(undone).ask(y -> y.digest()));
        }
    }

    private static void punch() {
        refused("punch(20, 0, 1)", BOUNDS, BUSY, x -> x.punch(20, 0, 1));
        refused("punch(-2, 0, 1)", BOUNDS, BUSY, x -> x.punch(-2, 0, 1));
        refused("punch(0, -1, 1)", BOUNDS, BUSY, x -> x.punch(0, -1, 1));
        refused("punch(0, 96, 1)", BOUNDS, BUSY, x -> x.punch(0, 96, 1));
        refused("punch(0, 12, 0)", ARGUMENT, BUSY, x -> x.punch(0, 12, 0));
        refused("punch(0, 0, 97)", ARGUMENT, BUSY, x -> x.punch(0, 0, 97));
        refused("punch(0, 1, 96)", STATE, BUSY, x -> x.punch(0, 1, 96));
        refused("punch(NONE, 95, 2)", STATE, BUSY, x -> x.punch(NONE, 95, 2));
        refused("punch(1, 90, 7)", STATE, FULL_SHELF, x -> x.punch(1, 90, 7));
    }

    private static void punchWithTwo() {
        refused("no such note, and length 0", BOUNDS, BUSY, x -> x.punch(20, 0, 0));
        refused("no such note, and length 97", BOUNDS, BUSY, x -> x.punch(-2, 0, 97));
        refused("no such step, and length 0", BOUNDS, BUSY, x -> x.punch(0, 96, 0));
        refused("no such step, and length 97", BOUNDS, BUSY, x -> x.punch(0, -1, 97));
        refused("no such note, and beyond 95", BOUNDS, BUSY, x -> x.punch(20, 95, 2));
        refused("no such step, and beyond 95", BOUNDS, BUSY, x -> x.punch(0, 96, 2));
        refused("length 97, and beyond 95", ARGUMENT, BUSY, x -> x.punch(0, 95, 97));
        refused("the greatest length, and beyond 95", ARGUMENT, BUSY, x -> x.punch(0, 95, HIGH));
        refused("the least length", ARGUMENT, BUSY, x -> x.punch(0, 95, LOW));
        refused("all three", BOUNDS, BUSY, x -> x.punch(20, 95, 97));
        refused("all three, furthest", BOUNDS, BUSY, x -> x.punch(HIGH, HIGH, HIGH));
    }

    private static void patchAndPeel() {
        refused("patch(-1, 0, 95)", BOUNDS, BUSY, x -> x.patch(-1, 0, 95));
        refused("patch(26, 0, 95)", BOUNDS, BUSY, x -> x.patch(26, 0, 95));
        refused("patch(3, -1, 95)", BOUNDS, BUSY, x -> x.patch(3, -1, 95));
        refused("patch(3, 0, 96)", BOUNDS, BUSY, x -> x.patch(3, 0, 96));
        refused("patch(3, 11, 10)", ARGUMENT, BUSY, x -> x.patch(3, 11, 10));
        refused("patch: no such track, and to less than from", BOUNDS, BUSY, x -> x.patch(26, 11, 10));
        refused("patch: from 96 and to 10", BOUNDS, BUSY, x -> x.patch(3, 96, 10));
        refused("patch: from 11 and to -1", BOUNDS, BUSY, x -> x.patch(3, 11, -1));
        refused("patch: from the greatest to the least", BOUNDS, BUSY, x -> x.patch(3, HIGH, LOW));
        refused("peel(-1, 0, 95)", BOUNDS, BUSY, x -> x.peel(-1, 0, 95));
        refused("peel(26, 0, 95)", BOUNDS, BUSY, x -> x.peel(26, 0, 95));
        refused("peel(3, -1, 95)", BOUNDS, BUSY, x -> x.peel(3, -1, 95));
        refused("peel(3, 0, 96)", BOUNDS, BUSY, x -> x.peel(3, 0, 96));
        refused("peel(3, 13, 12)", ARGUMENT, BUSY, x -> x.peel(3, 13, 12));
        refused("peel: no such track, and to less than from", BOUNDS, BUSY, x -> x.peel(-1, 13, 12));
        refused("peel: from 96 and to 12", BOUNDS, BUSY, x -> x.peel(3, 96, 12));
        refused("peel: from 13 and to -1", BOUNDS, BUSY, x -> x.peel(3, 13, -1));
        refused("peel with six saved", ARGUMENT, FULL_SHELF, x -> x.peel(3, 13, 12));
    }

    private static void shift() {
        refused("shift(4)", ARGUMENT, EMPTY, x -> x.shift(4));
        refused("shift(-4)", ARGUMENT, EMPTY, x -> x.shift(-4));
        refused("shift(1)", STATE, BUSY, x -> x.shift(1));
        refused("shift(-1)", STATE, BUSY, x -> x.shift(-1));
        refused("shift(3)", STATE, FULL_SHELF, x -> x.shift(3));
        refused("out of range, and beyond track 25", ARGUMENT, BUSY, x -> x.shift(4));
        refused("out of range, and beyond track 0", ARGUMENT, BUSY, x -> x.shift(-4));
        refused("the furthest, and beyond track 25", ARGUMENT, BUSY, x -> x.shift(HIGH));
        refused("the furthest, and beyond track 0", ARGUMENT, BUSY, x -> x.shift(LOW));
        // What is at the other border does not stop it.
        Script low = EMPTY.then(x -> x.punch(NONE, 0, 3), x -> x.patch(0, 50, 50));
        refused("shift(-1) of a patch on 0", STATE, low, x -> x.shift(-1));
        DUE.is("shift(3) of a patch on 0", low.ask(x -> x.shift(3)), 0);
    }

    private static void tear() {
        refused("tear(-1, 5, 1)", BOUNDS, BUSY, x -> x.tear(-1, 5, 1));
        refused("tear(5, 96, 1)", BOUNDS, BUSY, x -> x.tear(5, 96, 1));
        refused("tear(6, 5, 1)", ARGUMENT, BUSY, x -> x.tear(6, 5, 1));
        refused("tear(5, 5, 4)", ARGUMENT, BUSY, x -> x.tear(5, 5, 4));
        refused("tear(5, 5, -4)", ARGUMENT, BUSY, x -> x.tear(5, 5, -4));
        refused("tear(35, 35, 1)", STATE, BUSY, x -> x.tear(35, 35, 1));
        refused("tear(40, 40, -1)", STATE, BUSY, x -> x.tear(40, 40, -1));
        refused("one edge of all is at 3", STATE, BUSY.then(x -> x.tear(31, 35, -3)), x -> x.tear(0, 95, 1));
        refused("one edge of all is at -3", STATE, FULL_SHELF.then(x -> x.tear(41, 45, 3)), x -> x.tear(0, 95, -1));
        refused("no such step, and to less than from", BOUNDS, BUSY, x -> x.tear(96, 0, 1));
        refused("no such last step, and to less than from", BOUNDS, BUSY, x -> x.tear(5, -1, 1));
        refused("no such step, and by out of range", BOUNDS, BUSY, x -> x.tear(5, 96, 4));
        refused("no such step, and an edge beyond", BOUNDS, BUSY, x -> x.tear(30, 96, 1));
        refused("to less than from, and an edge beyond", ARGUMENT, BUSY, x -> x.tear(31, 30, 1));
        refused("by out of range, and an edge beyond", ARGUMENT, BUSY, x -> x.tear(30, 31, 4));
        refused("by furthest, and an edge beyond", ARGUMENT, BUSY, x -> x.tear(40, 41, LOW));
        refused("to less than from, and by out of range", ARGUMENT, BUSY, x -> x.tear(6, 5, 4));
        refused("all three", BOUNDS, BUSY, x -> x.tear(96, 30, 4));
    }

    private static void steerAndSet() {
        refused("steer(-1, 5, 1)", BOUNDS, BUSY, x -> x.steer(-1, 5, 1));
        refused("steer(5, 96, 1)", BOUNDS, BUSY, x -> x.steer(5, 96, 1));
        refused("steer(6, 5, 1)", ARGUMENT, BUSY, x -> x.steer(6, 5, 1));
        refused("steer(5, 5, 4)", ARGUMENT, BUSY, x -> x.steer(5, 5, 4));
        refused("steer(5, 5, -4)", ARGUMENT, FULL_SHELF, x -> x.steer(5, 5, -4));
        refused("steer: no such step, and to less than from", BOUNDS, BUSY, x -> x.steer(96, 0, 1));
        refused("steer: no such last step, and to less than from", BOUNDS, BUSY, x -> x.steer(5, -1, 1));
        refused("steer: no such step, and by out of range", BOUNDS, BUSY, x -> x.steer(-1, 5, -4));
        refused("steer: to less than from, and by out of range", ARGUMENT, BUSY, x -> x.steer(6, 5, 4));
        refused("set(-1, 0)", BOUNDS, BUSY, x -> x.set(-1, 0));
        refused("set(2, 0)", BOUNDS, BUSY, x -> x.set(2, 0));
        refused("set(0, 4)", ARGUMENT, BUSY, x -> x.set(0, 4));
        refused("set(0, -1)", ARGUMENT, BUSY, x -> x.set(0, -1));
        refused("set(1, 9)", ARGUMENT, FULL_SHELF, x -> x.set(1, 9));
        refused("set(1, -1)", ARGUMENT, BUSY, x -> x.set(1, -1));
        refused("set: no such setting, and out of range", BOUNDS, BUSY, x -> x.set(2, 9));
        refused("set: no such setting, and below 0", BOUNDS, BUSY, x -> x.set(-1, -1));
    }

    private static void texts() {
        refused("append(32)", ARGUMENT, BUSY, x -> x.append(32));
        refused("append(127)", ARGUMENT, EMPTY, x -> x.append(127));
        refused("append(65) of 60", STATE, FULL_BUFFER, x -> x.append(65));
        refused("append(33) of 60", STATE, FULL_BUFFER, x -> x.append(33));
        refused("append(126) of 60", STATE, FULL_BUFFER, x -> x.append(126));
        refused("append(32) of 60", ARGUMENT, FULL_BUFFER, x -> x.append(32));
        refused("append(127) of 60", ARGUMENT, FULL_BUFFER, x -> x.append(127));
        refused("undo() of nothing", STATE, EMPTY, x -> x.undo());
        refused("undo() with a buffer alone", STATE, EMPTY.write("p@0:1"), x -> x.undo());
        refused("undo() of all that is saved", STATE, BUSY.undone(4), x -> x.undo());
        refused("undo() of all six", STATE, FULL_SHELF.undone(6), x -> x.undo());
    }

    private static void punchAll() {
        refused("punchAll() of nothing", ARGUMENT, EMPTY, x -> x.punchAll());
        refused("punchAll() of nothing", ARGUMENT, BUSY.then(x -> x.clearBuffer()), x -> x.punchAll());
        refused("punchAll() of a row cut off", ARGUMENT, BUSY, x -> x.punchAll());
        refused("punchAll() of a row with a comma at its end", ARGUMENT, FULL_BUFFER, x -> x.punchAll());
        refused("punchAll() of an error", ARGUMENT, BUSY.write("@4:5!"), x -> x.punchAll());
        Script late = BUSY.then(x -> x.clearBuffer());
        refused("the only one is late", STATE, late.write("3@95:2"), x -> x.punchAll());
        refused("the first one is late", STATE, late.write("p@1:96,3@4:5"), x -> x.punchAll());
        refused("the one between is late", STATE, late.write("3@4:5,19@90:7,3@9:5"), x -> x.punchAll());
        refused("the last one is late", STATE, late.write("3@4:5,19@91:5,3@93:4"), x -> x.punchAll());
        refused("late, with six saved", STATE, FULL_SHELF.then(x -> x.clearBuffer()).write("3@4:5,3@95:96"),
            x -> x.punchAll());
        refused("late, and cut off", ARGUMENT, late.write("3@95:2,"), x -> x.punchAll());
        refused("late, and an error", ARGUMENT, late.write("3@95:2,3@96:1"), x -> x.punchAll());
        refused("an error, then late", ARGUMENT, late.write("3@4:0,3@95:2"), x -> x.punchAll());
    }

    private static void questions() {
        refused("place(-1, 0, 0)", BOUNDS, BUSY, x -> x.place(-1, 0, 0));
        refused("place(96, 0, 0)", BOUNDS, BUSY, x -> x.place(96, 0, 0));
        refused("place(0, -1, 0)", BOUNDS, BUSY, x -> x.place(0, -1, 0));
        refused("place(0, 26, 0)", BOUNDS, BUSY, x -> x.place(0, 26, 0));
        refused("place(0, 0, 3)", ARGUMENT, BUSY, x -> x.place(0, 0, 3));
        refused("place(0, 0, -1)", ARGUMENT, BUSY, x -> x.place(0, 0, -1));
        refused("place: no such step, and no such number", BOUNDS, BUSY, x -> x.place(96, 0, 3));
        refused("place: no such track, and no such number", BOUNDS, BUSY, x -> x.place(0, 26, 3));
        refused("step(-1, 0)", BOUNDS, BUSY, x -> x.step(-1, 0));
        refused("step(96, 0)", BOUNDS, BUSY, x -> x.step(96, 0));
        refused("step(0, 7)", ARGUMENT, BUSY, x -> x.step(0, 7));
        refused("step(0, -1)", ARGUMENT, BUSY, x -> x.step(0, -1));
        refused("step: no such step, and no such number", BOUNDS, BUSY, x -> x.step(96, 7));
        refused("count(-1)", ARGUMENT, BUSY, x -> x.count(-1));
        refused("count(15)", ARGUMENT, BUSY, x -> x.count(15));
        refused("setting(-1)", BOUNDS, BUSY, x -> x.setting(-1));
        refused("setting(2)", BOUNDS, BUSY, x -> x.setting(2));
    }

    private static void questionsOfNotes() {
        int played = (int) BUSY.ask(x -> x.count(3));
        int tune = (int) BUSY.ask(x -> x.count(4));
        refused("played(-1, 0)", BOUNDS, BUSY, x -> x.played(-1, 0));
        refused("played(" + played + ", 0)", BOUNDS, BUSY, x -> x.played(played, 0));
        refused("played(0, 6)", ARGUMENT, BUSY, x -> x.played(0, 6));
        refused("played(0, -1)", ARGUMENT, BUSY, x -> x.played(0, -1));
        refused("played: not so many, and no such number", BOUNDS, BUSY, x -> x.played(played, 6));
        refused("played(0, 0) of none", BOUNDS, EMPTY, x -> x.played(0, 0));
        refused("played(0, 6) of none", BOUNDS, EMPTY, x -> x.played(0, 6));
        refused("tune(-1, 0)", BOUNDS, BUSY, x -> x.tune(-1, 0));
        refused("tune(" + tune + ", 0)", BOUNDS, BUSY, x -> x.tune(tune, 0));
        refused("tune(0, 4)", ARGUMENT, BUSY, x -> x.tune(0, 4));
        refused("tune(0, -1)", ARGUMENT, BUSY, x -> x.tune(0, -1));
        refused("tune: not so many, and no such number", BOUNDS, BUSY, x -> x.tune(tune, 4));
        refused("tune(0, 0) of none", BOUNDS, EMPTY, x -> x.tune(0, 0));
        refused("tune(0, 4) of none", BOUNDS, EMPTY, x -> x.tune(0, 4));
        refused("tune(0, 0) of none, one played", BOUNDS, EMPTY.then(x -> x.punch(0, 0, 1)), x -> x.tune(0, 0));
    }

    private static void whatWouldBe() {
        refused("bestSteer(-1, 5, 0)", BOUNDS, BUSY, x -> x.bestSteer(-1, 5, 0));
        refused("bestSteer(5, 96, 0)", BOUNDS, BUSY, x -> x.bestSteer(5, 96, 0));
        refused("bestSteer(6, 5, 0)", ARGUMENT, BUSY, x -> x.bestSteer(6, 5, 0));
        refused("bestSteer(5, 5, 2)", ARGUMENT, BUSY, x -> x.bestSteer(5, 5, 2));
        refused("bestSteer(5, 5, -1)", ARGUMENT, BUSY, x -> x.bestSteer(5, 5, -1));
        refused("bestSteer: no such step, and to less than from", BOUNDS, BUSY, x -> x.bestSteer(96, 5, 0));
        refused("bestSteer: no such last step, and less than from", BOUNDS, BUSY, x -> x.bestSteer(5, -1, 0));
        refused("bestSteer: no such step, and no such number", BOUNDS, BUSY, x -> x.bestSteer(5, 96, 2));
        refused("bestSteer: to less than from, and no such number", ARGUMENT, BUSY, x -> x.bestSteer(6, 5, 2));
        refused("bestBreak(4, 0)", ARGUMENT, BUSY, x -> x.bestBreak(4, 0));
        refused("bestBreak(-4, 0)", ARGUMENT, BUSY, x -> x.bestBreak(-4, 0));
        refused("bestBreak(1, 2)", ARGUMENT, BUSY, x -> x.bestBreak(1, 2));
        refused("bestBreak(1, -1)", ARGUMENT, BUSY, x -> x.bestBreak(1, -1));
        refused("bestBreak: both", ARGUMENT, BUSY, x -> x.bestBreak(4, 2));
        refused("holesFor(0)", ARGUMENT, BUSY, x -> x.holesFor(0));
        refused("holesFor(97)", ARGUMENT, BUSY, x -> x.holesFor(97));
    }

    // What was refused is not in the way of what comes next.
    private static void allowedBehindRefused() {
        Script tried = BUSY.tried(x -> x.punch(0, 95, 2)).tried(x -> x.shift(4)).tried(x -> x.tear(30, 30, 1))
                .tried(x -> x.append(32)).tried(x -> x.punchAll()).tried(x -> x.tune(-1, 0));
        Script.Made[] next = {x -> x.punch(0, 95, 1), x -> x.tear(29, 29, 3), x -> x.clearBuffer(),
            x -> x.append('p'), x -> x.learn(), x -> x.undo()};
        DUE.same("behind all of them", tried.then(next).picture(), BUSY.then(next).picture());
        RollPunch x = FULL_BUFFER.tried(y -> y.append(65)).play();
        DUE.is("clearBuffer() behind append(65) of 60", x.clearBuffer(), 60);
        DUE.is("append(65)", x.append(65), 1);
    }

    public static void main(String[] args) {
        punch();
        punchWithTwo();
        patchAndPeel();
        shift();
        tear();
        steerAndSet();
        texts();
        punchAll();
        questions();
        questionsOfNotes();
        whatWouldBe();
        allowedBehindRefused();
        DUE.end();
    }
}
