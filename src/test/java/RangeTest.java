import java.util.function.IntFunction;

/**
 * Each argument of each call, on both sides: the last value that is allowed, the first one that is
 * not, and the furthest ones that there are.
 */
public final class RangeTest {
    private static final Due DUE = new Due("RangeTest");
    private static final Class<?> BOUNDS = IndexOutOfBoundsException.class;
    private static final Class<?> ARGUMENT = IllegalArgumentException.class;
    private static final Class<?> STATE = IllegalStateException.class;
    private static final Script EMPTY = new Script();
    // Notes 2 and 7 at the first step, and note 7 at the last one, are played and learned.
    private static final Script THREE_NOTES = EMPTY.then(x -> x.punch(7, 95, 1), x -> x.punch(2, 0, 1),
            x -> x.punch(7, 0, 1), x -> x.learn());

    /** Allowed from low to high, tried on a fresh object each time. */
    private static void range(String call, int low, int high, Class<?> kind, Script before,
            IntFunction<Script.Made> made) {
        int[] allowed = {low, Math.min(low + 1, high), Math.max(high - 1, low), high};
        for (int k : allowed) {
            RollPunch x = before.play();
            try {
                made.apply(k).on(x);
            } catch (RuntimeException e) {
                DUE.wrong(call + " with k = " + k + " threw " + e + ", due is an answer");
            }
        }
        refusedBeside(call, low, high, kind, before, made);
    }

    private static void refusedBeside(String call, int low, int high, Class<?> kind, Script before,
            IntFunction<Script.Made> made) {
        int[] refused = {low - 1, high + 1, low - 1000, high + 1000, Integer.MIN_VALUE, Integer.MAX_VALUE,
            Integer.MIN_VALUE + low, Integer.MAX_VALUE - high};
        for (int k : refused) {
            RollPunch x = before.play();
            DUE.throwsJust(call + " with k = " + k, kind, () -> made.apply(k).on(x));
        }
    }

    private static void upTo(String call, int high, Class<?> kind, Script before, IntFunction<Script.Made> made) {
        RollPunch x = before.play();
        try {
            made.apply(high).on(x);
        } catch (RuntimeException e) {
            DUE.wrong(call + " with k = " + high + " threw " + e + ", due is an answer");
        }
        DUE.throwsJust(call + " with k = " + (high + 1), kind, () -> made.apply(high + 1).on(before.play()));
    }

    private static void punch() {
        range("punch(k, 0, 1)", -1, 19, BOUNDS, EMPTY, k -> x -> x.punch(k, 0, 1));
        range("punch(0, k, 1)", 0, 95, BOUNDS, EMPTY, k -> x -> x.punch(0, k, 1));
        range("punch(0, 0, k)", 1, 96, ARGUMENT, EMPTY, k -> x -> x.punch(0, 0, k));
        range("punch(NONE, 0, k)", 1, 96, ARGUMENT, EMPTY, k -> x -> x.punch(RollPunch.NONE, 0, k));
        for (int step = 1; step <= 95; step++) {
            int s = step;
            upTo("punch(19, " + s + ", k)", 96 - s, STATE, EMPTY, k -> x -> x.punch(19, s, k));
        }
        upTo("punch(0, k, 96)", 0, STATE, EMPTY, k -> x -> x.punch(0, k, 96));
        upTo("punch(0, k, 2)", 94, STATE, EMPTY, k -> x -> x.punch(0, k, 2));
    }

    private static void patch() {
        range("patch(k, 0, 0)", 0, 25, BOUNDS, EMPTY, k -> x -> x.patch(k, 0, 0));
        range("patch(0, k, 95)", 0, 95, BOUNDS, EMPTY, k -> x -> x.patch(0, k, 95));
        range("patch(0, 0, k)", 0, 95, BOUNDS, EMPTY, k -> x -> x.patch(0, 0, k));
        upTo("patch(0, k, 0)", 0, ARGUMENT, EMPTY, k -> x -> x.patch(0, k, 0));
        upTo("patch(0, k, 50)", 50, ARGUMENT, EMPTY, k -> x -> x.patch(0, k, 50));
        upTo("patch(0, 95, 95 - k)", 0, ARGUMENT, EMPTY, k -> x -> x.patch(0, 95, 95 - k));
    }

    private static void peel() {
        range("peel(k, 0, 0)", 0, 25, BOUNDS, EMPTY, k -> x -> x.peel(k, 0, 0));
        range("peel(0, k, 95)", 0, 95, BOUNDS, EMPTY, k -> x -> x.peel(0, k, 95));
        range("peel(0, 0, k)", 0, 95, BOUNDS, EMPTY, k -> x -> x.peel(0, 0, k));
        upTo("peel(0, k, 0)", 0, ARGUMENT, EMPTY, k -> x -> x.peel(0, k, 0));
        upTo("peel(0, k, 50)", 50, ARGUMENT, EMPTY, k -> x -> x.peel(0, k, 50));
        upTo("peel(0, 95, 95 - k)", 0, ARGUMENT, EMPTY, k -> x -> x.peel(0, 95, 95 - k));
    }

    private static void shift() {
        range("shift(k)", -3, 3, ARGUMENT, EMPTY, k -> x -> x.shift(k));
        range("shift(k)", -3, 3, ARGUMENT, THREE_NOTES, k -> x -> x.shift(k));
        for (int track = 0; track <= 3; track++) {
            int t = track;
            Script low = EMPTY.then(x -> x.patch(t, 95, 95));
            Script high = EMPTY.then(x -> x.patch(25 - t, 0, 0));
            if (t < 3) {
                upTo("shift(-k), a patch on " + t, t, STATE, low, k -> x -> x.shift(-k));
                upTo("shift(k), a patch on " + (25 - t), t, STATE, high, k -> x -> x.shift(k));
            } else {
                upTo("shift(-k), a patch on 3", 3, ARGUMENT, low, k -> x -> x.shift(-k));
                upTo("shift(k), a patch on 22", 3, ARGUMENT, high, k -> x -> x.shift(k));
            }
        }
        Script pedal = EMPTY.then(x -> x.punch(RollPunch.NONE, 50, 1));
        Script last = EMPTY.then(x -> x.punch(19, 50, 1));
        upTo("shift(-k), a hole on 2", 2, STATE, pedal, k -> x -> x.shift(-k));
        upTo("shift(k), a hole on 22", 3, ARGUMENT, last, k -> x -> x.shift(k));
        upTo("shift(k), a hole on 23", 2, STATE, last.then(x -> x.shift(1)), k -> x -> x.shift(k));
    }

    private static void tear() {
        range("tear(k, 95, 1)", 0, 95, BOUNDS, EMPTY, k -> x -> x.tear(k, 95, 1));
        range("tear(0, k, 1)", 0, 95, BOUNDS, EMPTY, k -> x -> x.tear(0, k, 1));
        upTo("tear(k, 0, 1)", 0, ARGUMENT, EMPTY, k -> x -> x.tear(k, 0, 1));
        upTo("tear(k, 50, 1)", 50, ARGUMENT, EMPTY, k -> x -> x.tear(k, 50, 1));
        upTo("tear(95, 95 - k, 1)", 0, ARGUMENT, EMPTY, k -> x -> x.tear(95, 95 - k, 1));
        range("tear(0, 95, k)", -3, 3, ARGUMENT, EMPTY, k -> x -> x.tear(0, 95, k));
        for (int edge = 1; edge <= 3; edge++) {
            int e = edge;
            Script up = EMPTY.then(x -> x.tear(40, 40, e));
            Script down = EMPTY.then(x -> x.tear(40, 40, -e));
            upTo("tear(0, 95, k), an edge of " + e, 3 - e, STATE, up, k -> x -> x.tear(0, 95, k));
            upTo("tear(0, 95, -k), an edge of -" + e, 3 - e, STATE, down, k -> x -> x.tear(0, 95, -k));
            upTo("tear(40, 40, -k), an edge of " + e, 3, ARGUMENT, up, k -> x -> x.tear(40, 40, -k));
            upTo("tear(40, 40, k), an edge of -" + e, 3, ARGUMENT, down, k -> x -> x.tear(40, 40, k));
        }
    }

    private static void steer() {
        range("steer(k, 95, 1)", 0, 95, BOUNDS, EMPTY, k -> x -> x.steer(k, 95, 1));
        range("steer(0, k, 1)", 0, 95, BOUNDS, EMPTY, k -> x -> x.steer(0, k, 1));
        upTo("steer(k, 0, 1)", 0, ARGUMENT, EMPTY, k -> x -> x.steer(k, 0, 1));
        upTo("steer(k, 50, 1)", 50, ARGUMENT, EMPTY, k -> x -> x.steer(k, 50, 1));
        upTo("steer(95, 95 - k, 1)", 0, ARGUMENT, EMPTY, k -> x -> x.steer(95, 95 - k, 1));
        range("steer(0, 95, k)", -3, 3, ARGUMENT, EMPTY, k -> x -> x.steer(0, 95, k));
        // The steering becomes a number: so it does not matter what it is.
        range("steer(0, 95, k)", -3, 3, ARGUMENT, EMPTY.then(x -> x.steer(0, 95, 3)), k -> x -> x.steer(0, 95, k));
    }

    private static void settings() {
        range("set(k, 0)", 0, 1, BOUNDS, EMPTY, k -> x -> x.set(k, 0));
        range("set(0, k)", 0, 3, ARGUMENT, EMPTY, k -> x -> x.set(0, k));
        range("set(1, k)", 0, 8, ARGUMENT, EMPTY, k -> x -> x.set(1, k));
        range("setting(k)", 0, 1, BOUNDS, EMPTY, k -> x -> x.setting(k));
    }

    private static void texts() {
        range("append(k)", 33, 126, ARGUMENT, EMPTY, k -> x -> x.append(k));
        range("append(k) as the last one", 33, 126, ARGUMENT, EMPTY.write("~".repeat(59)), k -> x -> x.append(k));
        upTo("append(65), k times before", 59, STATE, EMPTY, k -> x -> {
            for (int i = 0; i < k; i++) {
                x.append(33);
            }
            return x.append(65);
        });
        Script saved = EMPTY.then(x -> x.learn(), x -> x.learn(), x -> x.learn());
        upTo("undo() of three, k times before", 2, STATE, saved, k -> x -> {
            for (int i = 0; i < k; i++) {
                x.undo();
            }
            return x.undo();
        });
    }

    private static void questions() {
        range("place(k, 0, 0)", 0, 95, BOUNDS, EMPTY, k -> x -> x.place(k, 0, 0));
        range("place(0, k, 0)", 0, 25, BOUNDS, EMPTY, k -> x -> x.place(0, k, 0));
        range("place(0, k, 2)", 0, 25, BOUNDS, EMPTY, k -> x -> x.place(0, k, 2));
        range("place(0, 0, k)", 0, 2, ARGUMENT, EMPTY, k -> x -> x.place(0, 0, k));
        range("step(k, 0)", 0, 95, BOUNDS, EMPTY, k -> x -> x.step(k, 0));
        range("step(k, 6)", 0, 95, BOUNDS, EMPTY, k -> x -> x.step(k, 6));
        range("step(0, k)", 0, 6, ARGUMENT, EMPTY, k -> x -> x.step(0, k));
        range("played(k, 0)", 0, 2, BOUNDS, THREE_NOTES, k -> x -> x.played(k, 0));
        range("played(k, 5)", 0, 2, BOUNDS, THREE_NOTES, k -> x -> x.played(k, 5));
        range("played(0, k)", 0, 5, ARGUMENT, THREE_NOTES, k -> x -> x.played(0, k));
        range("played(2, k)", 0, 5, ARGUMENT, THREE_NOTES, k -> x -> x.played(2, k));
        range("tune(k, 0)", 0, 2, BOUNDS, THREE_NOTES, k -> x -> x.tune(k, 0));
        range("tune(k, 3)", 0, 2, BOUNDS, THREE_NOTES, k -> x -> x.tune(k, 3));
        range("tune(0, k)", 0, 3, ARGUMENT, THREE_NOTES, k -> x -> x.tune(0, k));
        range("tune(2, k)", 0, 3, ARGUMENT, THREE_NOTES, k -> x -> x.tune(2, k));
        range("count(k)", 0, 14, ARGUMENT, EMPTY, k -> x -> x.count(k));
    }

    // The tune and what is played have their own numbers of notes.
    private static void playedAndTuneApart() {
        Script more = THREE_NOTES.then(x -> x.punch(9, 50, 1));
        range("played(k, 0) of four", 0, 3, BOUNDS, more, k -> x -> x.played(k, 0));
        range("tune(k, 0) of three", 0, 2, BOUNDS, more, k -> x -> x.tune(k, 0));
        Script fewer = THREE_NOTES.then(x -> x.patch(10, 0, 95));
        range("played(k, 0) of one", 0, 0, BOUNDS, fewer, k -> x -> x.played(k, 0));
        range("tune(k, 0) of three", 0, 2, BOUNDS, fewer, k -> x -> x.tune(k, 0));
    }

    private static void whatWouldBe() {
        range("bestSteer(k, 95, 0)", 0, 95, BOUNDS, EMPTY, k -> x -> x.bestSteer(k, 95, 0));
        range("bestSteer(0, k, 1)", 0, 95, BOUNDS, EMPTY, k -> x -> x.bestSteer(0, k, 1));
        upTo("bestSteer(k, 0, 0)", 0, ARGUMENT, EMPTY, k -> x -> x.bestSteer(k, 0, 0));
        upTo("bestSteer(k, 50, 1)", 50, ARGUMENT, EMPTY, k -> x -> x.bestSteer(k, 50, 1));
        upTo("bestSteer(95, 95 - k, 0)", 0, ARGUMENT, EMPTY, k -> x -> x.bestSteer(95, 95 - k, 0));
        range("bestSteer(0, 95, k)", 0, 1, ARGUMENT, EMPTY, k -> x -> x.bestSteer(0, 95, k));
        range("bestBreak(k, 0)", -3, 3, ARGUMENT, EMPTY, k -> x -> x.bestBreak(k, 0));
        range("bestBreak(k, 1)", -3, 3, ARGUMENT, EMPTY, k -> x -> x.bestBreak(k, 1));
        range("bestBreak(0, k)", 0, 1, ARGUMENT, EMPTY, k -> x -> x.bestBreak(0, k));
        for (int bridge = 0; bridge <= 3; bridge++) {
            int b = bridge;
            range("holesFor(k), bridge " + b, 1, 96, ARGUMENT, EMPTY.then(x -> x.set(0, b)), k -> x -> x.holesFor(k));
        }
    }

    public static void main(String[] args) {
        punch();
        patch();
        peel();
        shift();
        tear();
        steer();
        settings();
        texts();
        questions();
        playedAndTuneApart();
        whatWouldBe();
        DUE.end();
    }
}
