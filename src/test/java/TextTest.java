/** Promises 10 to 13: append, clearBuffer, firstError, punchAll. */
public final class TextTest {
    private static final Due DUE = new Due("TextTest");
    private static final int LOW = Integer.MIN_VALUE;
    private static final int HIGH = Integer.MAX_VALUE;
    private static final Script EMPTY = new Script();
    private static final String DIGITS = "0123456789";

    private static void append() {
        RollPunch x = new RollPunch();
        int[] codes = {32, 127, 0, -1, 128, LOW, HIGH};
        for (int k : codes) {
            DUE.argument("append(" + k + ")", () -> x.append(k));
        }
        DUE.is("append(33)", x.append(33), 1);
        DUE.is("append(126)", x.append(126), 2);
        for (int i = 3; i <= 60; i++) {
            DUE.is("append(65)", x.append(65), i);
        }
        DUE.state("append(65) of 60", () -> x.append(65));
        DUE.argument("append(32) of 60", () -> x.append(32));
        DUE.is("count(14)", x.count(14), 0);
        DUE.is("clearBuffer()", x.clearBuffer(), 60);
        DUE.is("clearBuffer() again", x.clearBuffer(), 0);
        DUE.is("count(14)", x.count(14), 0);
        DUE.is("append(65)", x.append(65), 1);
    }

    private static void error(String text, int want) {
        RollPunch x = new RollPunch();
        Due.write(x, text);
        DUE.is("firstError() of " + text, x.firstError(), want);
        DUE.is("firstError() of " + text + " again", x.firstError(), want);
        DUE.is("its length", x.clearBuffer(), text.length());
        DUE.is("firstError() of nothing", x.firstError(), 0);
    }

    private static void firstError() {
        String[] good = {"", "p", "p@", "0", "1", "9", "10", "19", "19@", "0@0", "0@95", "0@9:", "7@85:1", "7@8:96",
            "7@8:9", "7@8:90,", "7@8:90,p", "7@8:1,p@0:96,19@95:1", "0@89:89", "p@10:10,10@10:10"};
        for (String text : good) {
            error(text, text.length());
        }
        error("@", 0);
        error(",", 0);
        error(":", 0);
        error("P", 0);
        error("q@0:1", 0);
        error("~", 0);
        error("pp", 1);
        error("p1", 1);
        error("1p", 1);
        error("p:", 1);
        error("p,", 1);
        error("00", 1);
        error("01@", 1);
        error("20@", 1);
        error("29", 1);
        error("99", 1);
        error("100", 2);
        error("190", 2);
        error("3@@", 2);
        error("3@:", 2);
        error("3@p", 2);
        error("3@,", 2);
        error("3@00", 3);
        error("3@05:", 3);
        error("3@96", 3);
        error("3@99", 3);
        error("3@100", 4);
        error("3@9,", 3);
        error("3@9@", 3);
        error("3@9p", 3);
        error("3@9:0", 4);
        error("3@9::", 4);
        error("3@9:p", 4);
        error("3@9:,", 4);
        error("3@9:97", 5);
        error("3@9:100", 6);
        error("3@9:1:", 5);
        error("3@9:1@", 5);
        error("3@9:1p", 5);
        error("3@9:1,,", 6);
        error("3@9:1,@", 6);
        error("3@9:1,20@", 7);
        error("3@9:1,p@0:1,p@0:1,p@0:1,p@0:1,p@0:1,p@0:1,p@0:1,p@0:1,p@0:9!", 59);
    }

    private static void punchAll() {
        RollPunch x = new RollPunch();
        Due.write(x, "5@20:3,p@30:4,19@90:6");
        DUE.is("punchAll()", x.punchAll(), 2 + 3 + 4);
        DUE.is("played", Due.played(x), "5 20 22 22 2 0, 19 90 95 95 4 0");
        DUE.is("pedal", Due.steps(x, 4, 29, 34), "0 1 1 1 1 0");
        DUE.is("clearBuffer()", x.clearBuffer(), 0);
        DUE.is("count(14)", x.count(14), 1);
        Due.write(x, "5@20:5,5@24:1,5@26:1");
        DUE.is("punchAll()", x.punchAll(), 2);
        DUE.is("played(0, 2)", x.played(0, 2), 26);
        DUE.is("count(14)", x.count(14), 2);
        x.patch(8, 0, 95);
        Due.write(x, "5@26:1");
        DUE.is("punchAll() below a patch", x.punchAll(), 0);
        DUE.is("played", Due.played(x), "5 26 26 26 1 0, 19 90 95 95 4 0");
        DUE.is("count(2)", x.count(2), 95);
        Due.write(x, "p@5");
        DUE.is("undo()", x.undo(), 3);
        DUE.is("the buffer stays", x.clearBuffer(), 3);
        DUE.is("undo()", x.undo(), 2);
        DUE.is("undo()", x.undo(), 1);
        DUE.is("undo()", x.undo(), 0);
        DUE.is("count(0)", x.count(0), 0);
        Due.write(x, "p@0:9,p@9:9,0@1:9,1@1:9,2@1:9,3@1:9,4@1:9,5@1:9,6@1:9,7@1:9");
        DUE.is("punchAll() of ten", x.punchAll(), 50);
        x.set(0, 3);
        Due.write(x, "9@0:96");
        DUE.is("punchAll() with a bridge", x.punchAll(), 25);
    }

    private static void punchAllErrors() {
        RollPunch x = new RollPunch();
        DUE.argument("punchAll() of nothing", () -> x.punchAll());
        String[] cut = {"p", "p@", "3", "3@4", "3@4:", "3@4:5,", "3@4:5,p", "3@4:5,p@3:", "3@4:5,x", "3@90:9,",
            "x", "3@4:5@", "3@4:0", "3@4:97", "3@4:5,3@4:97"};
        for (String text : cut) {
            Due.write(x, text);
            DUE.argument("punchAll() of " + text, () -> x.punchAll());
            DUE.is("the buffer stays", x.clearBuffer(), text.length());
        }
        String[] late = {"p@95:2", "0@0:1,1@90:7,2@0:1", "0@0:1,1@1:96", "3@90:7", "3@90:1,4@90:96"};
        for (String text : late) {
            Due.write(x, text);
            DUE.state("punchAll() of " + text, () -> x.punchAll());
            DUE.is("the buffer stays", x.clearBuffer(), text.length());
        }
        DUE.is("counts", Due.counts(x), "0 0 0 0 0 0 0 0 0 0 0 0 0 0 0");
        Due.write(x, "3@90:1,4@90:7");
        DUE.state("punchAll() of a late one", () -> x.punchAll());
        x.clearBuffer();
        Due.write(x, "9@9:9");
        DUE.is("punchAll() of fewer", x.punchAll(), 5);
        x.undo();
        Due.write(x, "3@90:6,p@0:96,4@95:1");
        DUE.is("punchAll()", x.punchAll(), 4 + 49 + 1);
    }

    // Each code from 33 to 126 behind a text: those that may come next, and all others.
    private static void next(String text, String allowed) {
        for (int code = 33; code <= 126; code++) {
            int c = code;
            int due = allowed.indexOf(c) >= 0 ? text.length() + 1 : text.length();
            DUE.is("firstError() of " + text + (char) c, EMPTY.write(text).then(x -> x.append(c))
                    .ask(x -> x.firstError()), due);
        }
    }

    // "p or a note, 0 to 19, then @, a step, 0 to 95, :, and a length, 1 to 96", "without leading zeros".
    private static void everyNextSign() {
        String[] starts = {"", "7@7:7,", "p@10:96,19@95:1,"};
        for (String start : starts) {
            next(start, "p" + DIGITS);
            next(start + "p", "@");
            next(start + "0", "@");
            next(start + "1", "@" + DIGITS);
            for (int note = 2; note <= 19; note++) {
                next(start + note, "@");
            }
        }
        String[] notes = {"p", "0", "1", "19"};
        for (String note : notes) {
            next(note + "@", DIGITS);
            next(note + "@0", ":");
            for (int step = 1; step <= 95; step++) {
                next(note + "@" + step, step < 9 ? ":" + DIGITS : step == 9 ? ":012345" : ":");
            }
        }
        String[] places = {"p@0", "0@9", "19@95"};
        for (String place : places) {
            next(place + ":", "123456789");
            for (int length = 1; length <= 96; length++) {
                next(place + ":" + length, length < 9 ? "," + DIGITS : length == 9 ? ",0123456" : ",");
            }
        }
    }

    // "If no row of notes, of any length, begins with": a full buffer may be cut off anywhere.
    private static void fullBuffer() {
        String row = "7@7:7,".repeat(10);
        DUE.is("60 characters with a comma at the end", EMPTY.write(row).ask(x -> x.firstError()), 60);
        String[] ends = {"p@95:9", "p@0:95", "p@95:,", "p@95:0", "p@95::", "7@7,7,", "x@7:7,", "p@77:7"};
        int[] due = {60, 60, 59, 59, 59, 57, 54, 60};
        for (int i = 0; i < ends.length; i++) {
            String text = row.substring(0, 54) + ends[i];
            DUE.is("firstError() of " + text, EMPTY.write(text).ask(x -> x.firstError()), due[i]);
        }
        DUE.is("of two errors the first", EMPTY.write("0@0:0,x").ask(x -> x.firstError()), 4);
        DUE.is("60 errors", EMPTY.write("~".repeat(60)).ask(x -> x.firstError()), 0);
        DUE.is("59 characters", EMPTY.write(row.substring(0, 59)).ask(x -> x.firstError()), 59);
        DUE.is("a late one is no syntax error", EMPTY.write("p@95:96,0@95:2").ask(x -> x.firstError()), 14);
        DUE.is("append() behind 59", EMPTY.write("!".repeat(59)).ask(x -> x.append('!')), 60);
        DUE.is("clearBuffer() of 60", EMPTY.write("!".repeat(60)).ask(x -> x.clearBuffer()), 60);
        DUE.is("append() behind clearBuffer()", EMPTY.write("!".repeat(60)).then(x -> x.clearBuffer())
                .ask(x -> x.append('!')), 1);
        DUE.is("firstError() behind clearBuffer()", EMPTY.write("!".repeat(60)).then(x -> x.clearBuffer())
                .ask(x -> x.firstError()), 0);
    }

    // A row that fills the buffer, with ten parts; and the shortest one.
    private static void punchAllOfFullBuffer() {
        String full = "0@0:1,1@1:1,2@2:1,3@3:1,4@4:1,5@5:1,6@6:1,7@7:1,8@8:1,p@90:6";
        DUE.is("its length", full.length(), 60);
        Script run = EMPTY.write(full);
        DUE.is("punchAll() of 60 characters", run.ask(x -> x.punchAll()), 9 + 4);
        Script punched = run.then(x -> x.punchAll());
        DUE.is("notes then", punched.ask(x -> x.count(3)), 9);
        DUE.is("the pedal at the last step", punched.ask(x -> x.step(95, 4)), 1);
        DUE.is("the buffer then", punched.ask(x -> x.clearBuffer()), 0);
        DUE.is("firstError() then", punched.ask(x -> x.firstError()), 0);
        DUE.is("append() then", punched.ask(x -> x.append('p')), 1);
        Script byPunch = EMPTY;
        for (int note = 0; note <= 8; note++) {
            int n = note;
            byPunch = byPunch.then(x -> x.punch(n, n, 1));
        }
        byPunch = byPunch.then(x -> x.punch(RollPunch.NONE, 90, 6));
        DUE.is("digest() behind undo()", punched.undone(1).ask(x -> x.digest()), EMPTY.ask(x -> x.digest()));
        for (int step = 0; step < 96; step++) {
            int s = step;
            DUE.is("step(" + s + ", 6)", punched.ask(x -> x.step(s, 6)), byPunch.ask(x -> x.step(s, 6)));
        }
        DUE.is("punchAll() of 0@0:1", EMPTY.write("0@0:1").ask(x -> x.punchAll()), 1);
        DUE.is("punchAll() of p@95:1", EMPTY.write("p@95:1").ask(x -> x.punchAll()), 1);
        DUE.is("punchAll() of 19@0:96", EMPTY.write("19@0:96").ask(x -> x.punchAll()), 49);
        DUE.is("punchAll() of 19@89:7", EMPTY.write("19@89:7").ask(x -> x.punchAll()), 4);
    }

    // "Each one as punch() does": by the bridge, below patches, and what is punched twice is none more.
    private static void punchAllInTurn() {
        Script twice = EMPTY.write("3@5:4,3@5:4");
        DUE.is("the same one twice", twice.ask(x -> x.punchAll()), 3);
        Script below = EMPTY.then(x -> x.punch(3, 5, 4), x -> x.patch(6, 0, 95)).write("3@5:1,3@8:3");
        DUE.is("below patches", below.ask(x -> x.punchAll()), 1);
        DUE.is("patches then", below.then(x -> x.punchAll()).ask(x -> x.count(2)), 96 - 3);
        Script none = EMPTY.then(x -> x.punch(3, 5, 4)).write("3@5:4");
        DUE.is("no hole more", none.ask(x -> x.punchAll()), 0);
        DUE.is("it is saved all the same", none.then(x -> x.punchAll()).ask(x -> x.count(14)), 2);
        for (int bridge = 0; bridge <= 3; bridge++) {
            int b = bridge;
            int[] due = {96, 49, 33, 25};
            DUE.is("bridge " + b, EMPTY.then(x -> x.set(0, b)).write("7@0:96").ask(x -> x.punchAll()), due[b]);
        }
    }

    public static void main(String[] args) {
        append();
        firstError();
        everyNextSign();
        fullBuffer();
        punchAll();
        punchAllErrors();
        punchAllOfFullBuffer();
        punchAllInTurn();
        DUE.end();
    }
}
