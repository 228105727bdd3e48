import java.lang.reflect.InvocationTargetException;
import java.lang.reflect.Method;
import java.lang.reflect.Modifier;
import java.util.Arrays;

/**
 * Runs of 512 calls, made by a fixed row of numbers, of which every answer is compared with that
 * of PlainRoll: all promises, in states that no hand would write down.
 */
public final class ModelTest {
    private static final String[] NAMES = {"punch", "patch", "peel", "shift", "tear", "steer", "set", "learn",
        "append", "clearBuffer", "firstError", "punchAll", "undo", "place", "step", "played", "tune", "count",
        "setting", "bestSteer", "bestBridge", "bestBreak", "holesFor", "tuneShare", "digest"};
    private static final Method[] PROGRAM = methodsOf(RollPunch.class);
    private static final Method[] MODEL = methodsOf(PlainRoll.class);
    private static final String SIGNS = "p0123456789@:,";
    private static final int[] ODD = {Integer.MIN_VALUE, -1000, -4, -2, -1, 0, 1, 3, 4, 9, 20, 26, 96, 97, 1000,
        Integer.MAX_VALUE};

    private long seed;

    private ModelTest(long seed) {
        this.seed = seed;
    }

    private int below(int bound) {
        seed = seed * 6364136223846793005L + 1442695040888963407L;
        return (int) ((seed >>> 33) % bound);
    }

    private int from(int low, int high) {
        return low + below(high - low + 1);
    }

    private static Method[] methodsOf(Class<?> kind) {
        Method[] all = new Method[NAMES.length];
        for (Method m : kind.getDeclaredMethods()) {
            int op = Arrays.asList(NAMES).indexOf(m.getName());
            // PlainRoll has private helpers of the same names, with other arguments.
            if (op >= 0 && !Modifier.isPrivate(m.getModifiers())) {
                all[op] = m;
            }
        }
        return all;
    }

    private static String outcome(Object x, Method[] all, int[] c) {
        Method m = all[c[0]];
        Object[] arguments = new Object[m.getParameterCount()];
        for (int i = 0; i < arguments.length; i++) {
            arguments[i] = c[i + 1];
        }
        try {
            return "" + m.invoke(x, arguments);
        } catch (InvocationTargetException e) {
            return e.getCause().getClass().getName();
        } catch (IllegalAccessException e) {
            throw new AssertionError(e);
        }
    }

    private int[] made(int op, int notes) {
        int a = from(0, 95);
        int b = Math.min(95, a + below(below(4) == 0 ? 96 : 12));
        int note = from(-1, notes);
        int track = note < 0 ? 2 : note + 3;
        int aside = from(-3, 3);
        switch (op) {
            case 0: return new int[] {op, note, a, Math.min(from(1, 14), 96 - a)};
            case 1:
            case 2: return new int[] {op, below(4) == 0 ? from(0, 25) : track + from(-1, 1), a, b};
            case 3: return new int[] {op, from(-1, 1), 0, 0};
            case 4:
            case 5: return new int[] {op, a, below(3) == 0 ? 95 : b, below(2) == 0 ? aside : from(-1, 1)};
            case 6: return below(2) == 0 ? new int[] {op, 0, from(0, 3), 0} : new int[] {op, 1, from(0, 8), 0};
            case 8: return new int[] {op, SIGNS.charAt(below(SIGNS.length())), 0, 0};
            case 13: return new int[] {op, a, from(0, 25), from(0, 2)};
            case 14: return new int[] {op, a, from(0, 6), 0};
            case 15: return new int[] {op, from(0, 12), from(0, 5), 0};
            case 16: return new int[] {op, from(0, 8), from(0, 3), 0};
            case 17: return new int[] {op, from(0, 14), 0, 0};
            case 18: return new int[] {op, from(0, 1), 0, 0};
            case 19: return new int[] {op, a, b, from(0, 1)};
            case 21: return new int[] {op, aside, from(0, 1), 0};
            case 22: return new int[] {op, from(1, 96), 0, 0};
            default: return new int[] {op, 0, 0, 0};
        }
    }

    private int[] odd(int op) {
        int[] c = made(op, 19);
        c[from(1, 3)] = ODD[below(ODD.length)];
        if (below(3) == 0) {
            c[from(1, 3)] = ODD[below(ODD.length)];
        }
        return c;
    }

    // A text as it should be, cut or spoilt now and then, so that rows are punched as well.
    private String row() {
        StringBuilder text = new StringBuilder();
        int parts = from(1, 9);
        for (int i = 0; i < parts && text.length() < 53; i++) {
            int step = from(0, 95);
            int length = below(12) == 0 ? from(1, 96) : Math.min(from(1, 12), 96 - step);
            text.append(i > 0 ? "," : "").append(below(4) == 0 ? "p" : "" + from(0, 19));
            text.append('@').append(step).append(':').append(length);
        }
        if (below(4) == 0) {
            text.setCharAt(below(text.length()), SIGNS.charAt(below(SIGNS.length())));
        }
        if (below(5) == 0) {
            text.setLength(from(1, text.length()));
        }
        return text.length() > 60 ? text.substring(0, 60) : text.toString();
    }

    private static boolean agree(Due due, String run, RollPunch x, PlainRoll plain, int[] c) {
        String got = outcome(x, PROGRAM, c);
        String want = outcome(plain, MODEL, c);
        due.is(run + " " + NAMES[c[0]] + "(" + c[1] + ", " + c[2] + ", " + c[3] + ")", got, want);
        return got.equals(want);
    }

    // Changes come more often than questions, and undo, learn and shift seldom enough that
    // there is something to be right or wrong.
    private int chosen() {
        int[] often = {0, 0, 0, 0, 0, 0, 1, 2, 4, 5, 5, 6, 12};
        return below(3) == 0 ? below(25) : often[below(often.length)];
    }

    private void run(Due due, String run) {
        RollPunch x = new RollPunch();
        PlainRoll plain = new PlainRoll();
        int notes = below(2) == 0 ? 3 : 19;
        int calls = 0;
        boolean good = true;
        while (calls < 511 && good) {
            if (below(20) == 0 && calls < 400) {
                for (char sign : row().toCharArray()) {
                    good &= agree(due, run, x, plain, new int[] {8, sign, 0, 0});
                    calls++;
                }
                good &= agree(due, run, x, plain, new int[] {10, 0, 0, 0});
                good &= agree(due, run, x, plain, new int[] {11, 0, 0, 0});
                good &= agree(due, run, x, plain, new int[] {9, 0, 0, 0});
                calls += 3;
            }
            int op = chosen();
            good &= agree(due, run + " call " + calls, x, plain, below(10) == 0 ? odd(op) : made(op, notes));
            calls++;
            if (calls % 32 == 0 || calls == 511) {
                good &= agree(due, run + " call " + calls, x, plain, new int[] {24, 0, 0, 0});
                calls++;
            }
        }
    }

    public static void main(String[] args) {
        Due due = new Due("ModelTest");
        int runs = args.length > 0 ? Integer.parseInt(args[0]) : 60;
        for (int i = 1; i <= runs && !due.hasMany(); i++) {
            new ModelTest(i * 7919L).run(due, "run " + i);
        }
        due.end();
    }
}
