import java.util.Map;

/** Prints every call whose answer is not the one that is due, and counts them. */
final class Due {
    interface Call {
        long answer();
    }

    private final String name;
    private int wrong = 0;

    Due(String name) {
        this.name = name;
    }

    void is(String call, long got, long want) {
        if (got != want) {
            wrong("" + call + " answered " + got + ", due is " + want);
        }
    }

    void is(String call, String got, String want) {
        if (!got.equals(want)) {
            wrong("" + call + " answered " + got + ", due is " + want);
        }
    }

    void isExactly(String call, double got, double want) {
        is(call, Double.doubleToRawLongBits(got), Double.doubleToRawLongBits(want));
    }

    /** Of two pictures, prints the first answer that differs. */
    void same(String what, Map<String, Long> got, Map<String, Long> want) {
        if (!got.keySet().equals(want.keySet())) {
            wrong(what + ": " + got.size() + " answers, due are " + want.size());
            return;
        }
        for (Map.Entry<String, Long> answer : got.entrySet()) {
            Long due = want.get(answer.getKey());
            if (!answer.getValue().equals(due)) {
                wrong(what + ": " + answer.getKey() + " answered " + answer.getValue() + ", due is " + due);
                return;
            }
        }
    }

    void bounds(String call, Call made) {
        fails(call, made, IndexOutOfBoundsException.class);
    }

    void argument(String call, Call made) {
        fails(call, made, IllegalArgumentException.class);
    }

    void state(String call, Call made) {
        fails(call, made, IllegalStateException.class);
    }

    void throwsJust(String call, Class<?> kind, Call made) {
        fails(call, made, kind);
    }

    // Just this class: what the machine throws is of a class below it.
    private void fails(String call, Call made, Class<?> kind) {
        String got;
        try {
            got = "answered " + made.answer();
        } catch (RuntimeException e) {
            if (e.getClass() == kind) {
                return;
            }
            got = "threw " + e;
        }
        wrong(call + " " + got + ", due is " + kind.getSimpleName());
    }

    void wrong(String line) {
        wrong++;
        System.out.println(name + ": " + line);
    }

    boolean hasMany() {
        return wrong > 20;
    }

    void end() {
        System.out.println(name + (wrong == 0 ? ": all answers are as due" : ": " + wrong + " answers are not as due"));
        if (wrong != 0) {
            System.exit(1);
        }
    }

    static void write(RollPunch x, String text) {
        for (char c : text.toCharArray()) {
            x.append(c);
        }
    }

    /** The rows of numbers that a test compares as one text. */
    static String steps(RollPunch x, int what, int from, int to) {
        StringBuilder row = new StringBuilder();
        for (int s = from; s <= to; s++) {
            row.append(s == from ? "" : " ").append(x.step(s, what));
        }
        return row.toString();
    }

    static String played(RollPunch x) {
        StringBuilder row = new StringBuilder();
        for (int i = 0; i < x.count(3); i++) {
            for (int what = 0; what <= 5; what++) {
                row.append(what > 0 ? " " : i > 0 ? ", " : "").append(x.played(i, what));
            }
        }
        return row.toString();
    }

    static String tune(RollPunch x) {
        StringBuilder row = new StringBuilder();
        for (int i = 0; i < x.count(4); i++) {
            for (int what = 0; what <= 3; what++) {
                row.append(what > 0 ? " " : i > 0 ? ", " : "").append(x.tune(i, what));
            }
        }
        return row.toString();
    }

    static String counts(RollPunch x) {
        StringBuilder row = new StringBuilder();
        for (int what = 0; what <= 14; what++) {
            row.append(what > 0 ? " " : "").append(x.count(what));
        }
        return row.toString();
    }
}
