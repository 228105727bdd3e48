import java.util.Map;

/** Promise 14: undo, and what "Terms" says of it: which calls are saved, how many, and what a state is. */
public final class UndoTest {
    private static final Due DUE = new Due("UndoTest");
    private static final int NONE = RollPunch.NONE;
    private static final Script EMPTY = new Script();
    // Something of everything, with as many saved states as there can be but one.
    private static final Script BUSY = EMPTY
            .then(x -> x.set(1, 3), x -> x.punch(5, 20, 5), x -> x.punch(6, 26, 3), x -> x.punch(NONE, 22, 9))
            .then(x -> x.learn(), x -> x.punch(5, 30, 2), x -> x.patch(8, 30, 40), x -> x.steer(26, 27, 1))
            .then(x -> x.tear(26, 40, -1), x -> x.tear(90, 95, 3))
            .undone(1);
    private static final Script.Made[] CHANGES = {
        x -> x.punch(5, 40, 3), x -> x.punch(NONE, 0, 96), x -> x.patch(8, 0, 95), x -> x.patch(0, 0, 0),
        x -> x.peel(8, 0, 95), x -> x.shift(3), x -> x.shift(-2), x -> x.tear(0, 95, 1), x -> x.tear(30, 31, -2),
        x -> x.steer(0, 95, 3), x -> x.steer(27, 27, -3), x -> x.set(0, 0), x -> x.set(0, 3), x -> x.set(1, 8),
        x -> x.set(1, 0), x -> x.learn()};
    // Undoable ones that change nothing in BUSY.
    private static final Script.Made[] IDLE = {
        x -> x.punch(5, 20, 5), x -> x.patch(8, 30, 40), x -> x.patch(8, 33, 33), x -> x.peel(0, 0, 95),
        x -> x.peel(8, 0, 29), x -> x.shift(0), x -> x.tear(0, 95, 0), x -> x.steer(26, 27, 1),
        x -> x.steer(28, 95, 0), x -> x.set(0, 1), x -> x.set(1, 3)};
    private static final Script.Made[] QUESTIONS = {
        x -> x.firstError(), x -> x.place(20, 8, 0), x -> x.place(30, 8, 1), x -> x.place(20, 8, 2),
        x -> x.step(20, 0), x -> x.step(20, 3), x -> x.step(20, 5), x -> x.played(0, 3), x -> x.tune(1, 3),
        x -> x.count(5), x -> x.count(11), x -> x.count(14), x -> x.setting(0), x -> x.bestSteer(0, 95, 0),
        x -> x.bestSteer(20, 40, 1), x -> x.bestBridge(), x -> x.bestBreak(1, 0), x -> x.bestBreak(-3, 1),
        x -> x.holesFor(96), x -> (long) x.tuneShare(), x -> x.digest()};

    private static Map<String, Long> withoutSaved(Script run) {
        Map<String, Long> picture = run.picture();
        picture.remove("count(14)");
        picture.remove("digest()");
        return picture;
    }

    // "Restores the latest saved state, and drops it."
    private static void undoOfEachCall() {
        Map<String, Long> before = BUSY.picture();
        for (int i = 0; i < CHANGES.length; i++) {
            Script changed = BUSY.then(CHANGES[i]);
            DUE.is("count(14) behind change " + i, changed.ask(x -> x.count(14)), 6);
            if (withoutSaved(changed).equals(withoutSaved(BUSY))) {
                DUE.wrong("change " + i + " has changed nothing");
            }
            DUE.is("undo() of change " + i, changed.ask(x -> x.undo()), 5);
            DUE.same("behind undo() of change " + i, changed.undone(1).picture(), before);
        }
        Script text = BUSY.write("p@0:3,19@90:6").then(x -> x.punchAll());
        DUE.is("count(14) behind punchAll()", text.ask(x -> x.count(14)), 6);
        DUE.same("behind undo() of punchAll()", text.undone(1).picture(), before);
    }

    // "(Also if it changes nothing.)"
    private static void savedThoughNothingChanges() {
        Map<String, Long> before = BUSY.picture();
        for (int i = 0; i < IDLE.length; i++) {
            Script idle = BUSY.then(IDLE[i]);
            DUE.is("count(14) behind idle call " + i, idle.ask(x -> x.count(14)), 6);
            DUE.same("behind idle call " + i, withoutSaved(idle), withoutSaved(BUSY));
            DUE.same("behind undo() of idle call " + i, idle.undone(1).picture(), before);
        }
        Script learned = BUSY.then(x -> x.learn());
        DUE.same("learn() twice", withoutSaved(learned.then(x -> x.learn())), withoutSaved(learned));
        DUE.is("both are saved", EMPTY.then(x -> x.learn(), x -> x.learn()).ask(x -> x.count(14)), 2);
        Script text = BUSY.write("5@20:5").then(x -> x.punchAll());
        DUE.is("punchAll() that changes nothing is saved", text.ask(x -> x.count(14)), 6);
        DUE.same("behind punchAll() that changes nothing", withoutSaved(text), withoutSaved(BUSY));
    }

    // Only what is marked "undoable" is saved; what only asks changes nothing at all.
    private static void notSaved() {
        Map<String, Long> before = BUSY.picture();
        for (int i = 0; i < QUESTIONS.length; i++) {
            DUE.same("behind question " + i, BUSY.then(QUESTIONS[i]).picture(), before);
            DUE.same("behind question " + i + " twice", BUSY.then(QUESTIONS[i], QUESTIONS[i]).picture(), before);
        }
        Script text = BUSY.write("p@0").then(x -> x.clearBuffer());
        DUE.same("behind append() and clearBuffer()", text.picture(), before);
        DUE.is("count(14) behind append()", BUSY.write("p").ask(x -> x.count(14)), 5);
    }

    // "At most 6 states are saved; the oldest one is dropped first."
    private static void atMostSix() {
        Script[] rows = new Script[11];
        rows[0] = EMPTY;
        for (int i = 1; i <= 10; i++) {
            int n = i;
            rows[i] = rows[i - 1].then(x -> x.punch(n, 5 * n, 2));
            DUE.is("count(14) behind " + n + " calls", rows[i].ask(x -> x.count(14)), Math.min(n, 6));
        }
        for (int calls = 0; calls <= 10; calls++) {
            int saved = Math.min(calls, 6);
            for (int k = 1; k <= saved; k++) {
                Script undone = rows[calls].undone(k);
                String when = calls + " calls and " + k + " undo()";
                DUE.is("count(14) behind " + when, undone.ask(x -> x.count(14)), saved - k);
                DUE.same("behind " + when, withoutSaved(undone), withoutSaved(rows[calls - k]));
            }
            RollPunch empty = rows[calls].undone(saved).play();
            DUE.state("undo() behind " + calls + " calls and all undo()", () -> empty.undo());
            DUE.is("count(14) then", empty.count(14), 0);
        }
    }

    // Behind undo() the next call is saved in the place of what was dropped.
    private static void savedBehindUndo() {
        Script six = EMPTY;
        for (int i = 0; i < 8; i++) {
            int n = i;
            six = six.then(x -> x.punch(n, n, 1));
        }
        Script other = six.undone(2).then(x -> x.tear(90, 90, 1));
        DUE.is("count(14)", other.ask(x -> x.count(14)), 5);
        DUE.is("count(3)", other.ask(x -> x.count(3)), 6);
        DUE.same("undo() of it", other.undone(1).picture(), six.undone(2).picture());
        DUE.same("undo() of all", other.undone(5).picture(), six.undone(6).picture());
        DUE.is("notes of the oldest state", other.undone(5).ask(x -> x.count(3)), 2);
        Script more = other.then(x -> x.tear(91, 91, 1), x -> x.tear(92, 92, 1), x -> x.tear(93, 93, 1));
        DUE.is("count(14) of too many", more.ask(x -> x.count(14)), 6);
        DUE.is("notes of the oldest state then", more.undone(6).ask(x -> x.count(3)), 4);
        RollPunch x = more.undone(6).play();
        DUE.state("one undo() more", () -> x.undo());
        DUE.is("saved again", x.punch(0, 50, 1), 1);
        DUE.is("undo() of it", x.undo(), 0);
    }

    // "All but the buffer and the saved states."
    private static void bufferStays() {
        Script text = EMPTY.then(x -> x.punch(0, 0, 1)).write("p@5");
        DUE.is("clearBuffer() behind undo()", text.undone(1).ask(x -> x.clearBuffer()), 3);
        DUE.is("firstError() behind undo()", text.undone(1).write("!").ask(x -> x.firstError()), 3);
        Script written = EMPTY.write("p@5:9").then(x -> x.punch(0, 0, 1)).write("9");
        DUE.is("what was written later stays", written.undone(1).ask(x -> x.clearBuffer()), 6);
        Script cleared = EMPTY.write("p@5:9").then(x -> x.punch(0, 0, 1), x -> x.clearBuffer());
        DUE.is("what was cleared stays so", cleared.undone(1).ask(x -> x.clearBuffer()), 0);
        Script punched = EMPTY.write("p@5:9").then(x -> x.punchAll());
        DUE.is("what punchAll() cleared stays so", punched.undone(1).ask(x -> x.clearBuffer()), 0);
        Script full = EMPTY.write("!".repeat(60)).then(x -> x.punch(0, 0, 1));
        DUE.is("a full buffer stays", full.undone(1).ask(x -> x.clearBuffer()), 60);
        Script rewritten = EMPTY.write("p@5:9").then(x -> x.punchAll()).write("0@0:1");
        DUE.is("a new text behind undo() of punchAll()", rewritten.undone(1).ask(x -> x.punchAll()), 1);
    }

    // "Undoable, as one call": each row of notes is one saved state.
    private static void punchAllAsOneCall() {
        Script row = EMPTY.then(x -> x.punch(9, 9, 9)).write("0@0:1,1@1:1,2@2:1,3@3:1,p@4:4,5@5:1,6@6:1,7@7:1");
        Script punched = row.then(x -> x.punchAll());
        DUE.is("count(14)", punched.ask(x -> x.count(14)), 2);
        DUE.is("count(3)", punched.ask(x -> x.count(3)), 8);
        DUE.is("undo()", punched.ask(x -> x.undo()), 1);
        DUE.is("count(3) then", punched.undone(1).ask(x -> x.count(3)), 1);
        DUE.is("count(8) then", punched.undone(1).ask(x -> x.count(8)), 0);
    }

    public static void main(String[] args) {
        undoOfEachCall();
        savedThoughNothingChanges();
        notSaved();
        atMostSix();
        savedBehindUndo();
        bufferStays();
        punchAllAsOneCall();
        DUE.end();
    }
}
