import java.math.BigInteger;

/** Promises 21 to 26: bestSteer, bestBridge, bestBreak, holesFor, tuneShare, digest. */
public final class WouldBeTest {
    private static final Due DUE = new Due("WouldBeTest");
    private static final int LOW = Integer.MIN_VALUE;
    private static final int HIGH = Integer.MAX_VALUE;
    private static final Script EMPTY = new Script();

    // Notes at 10 to 12, 20 to 22, 30 to 32 and 40 to 42, all learned.
    private static RollPunch fourNotes() {
        RollPunch x = new RollPunch();
        for (int i = 1; i <= 4; i++) {
            x.punch(8, 10 * i, 3);
        }
        x.learn();
        return x;
    }

    private static void best(RollPunch x, int from, int to, int steering, int right) {
        String call = "bestSteer(" + from + ", " + to + ", ";
        DUE.is(call + "0)", x.bestSteer(from, to, 0), steering);
        DUE.is(call + "1)", x.bestSteer(from, to, 1), right);
    }

    private static void bestSteer() {
        RollPunch x = fourNotes();
        best(x, 0, 95, 0, 4);
        x.tear(0, 25, 2);
        best(x, 0, 95, 0, 2);
        best(x, 0, 25, -2, 4);
        best(x, 26, 95, 0, 2);
        best(x, 0, 19, -2, 3);
        best(x, 0, 11, 0, 2);
        best(x, 5, 12, -2, 3);
        best(x, 12, 12, 0, 2);
        x.tear(26, 95, -1);
        best(x, 0, 95, 1, 2);
        best(x, 33, 95, 1, 1);
        x.steer(10, 12, -2);
        best(x, 0, 95, 1, 2);
        best(x, 13, 95, 1, 3);
        DUE.is("nothing is changed", x.count(5) + " " + x.step(30, 1) + " " + x.count(14), "1 0 6");
        RollPunch y = fourNotes();
        y.tear(0, 25, 3);
        y.tear(26, 95, -3);
        best(y, 0, 95, -3, 2);
        y.tear(26, 95, 1);
        best(y, 0, 95, 2, 2);
        y.tear(0, 25, -1);
        best(y, 0, 95, -2, 2);
        y.tear(20, 95, 1);
        y.tear(40, 95, -1);
        best(y, 0, 95, 1, 1);
        y.tear(0, 19, -2);
        best(y, 0, 95, 0, 1);
        best(new RollPunch(), 0, 95, 0, 0);
        best(new RollPunch(), 95, 95, 0, 0);
    }

    private static void bestSteerOfOneStep() {
        RollPunch x = new RollPunch();
        x.punch(8, 0, 1);
        x.punch(8, 30, 1);
        x.punch(8, 60, 1);
        x.punch(8, 95, 1);
        x.learn();
        x.tear(0, 0, 1);
        x.tear(95, 95, -1);
        best(x, 0, 95, 0, 2);
        best(x, 0, 0, -1, 3);
        best(x, 1, 95, 0, 2);
        best(x, 95, 95, 1, 3);
        best(x, 0, 94, 0, 2);
        x.tear(30, 30, 1);
        x.tear(60, 60, -1);
        best(x, 0, 95, -1, 2);
        best(x, 0, 59, -1, 2);
        best(x, 30, 30, -1, 1);
        best(x, 31, 95, 1, 2);
        x.tear(30, 60, 1);
        best(x, 0, 30, -1, 2);
        best(x, 30, 95, 0, 1);
        best(x, 0, 60, 0, 1);
        best(x, 30, 30, -2, 2);
    }

    // What an earlier question found has no say in a later one.
    private static void questionsInTurn() {
        RollPunch x = new RollPunch();
        x.punch(8, 10, 1);
        x.punch(8, 14, 1);
        x.punch(8, 20, 1);
        x.set(0, 2);
        x.punch(8, 40, 4);
        x.learn();
        x.tear(0, 95, 1);
        x.set(0, 0);
        DUE.is("bestSteer(0, 95, 1)", x.bestSteer(0, 95, 1), 3);
        DUE.is("bestBridge()", x.bestBridge(), 0);
        DUE.is("bestBreak(1, 1)", x.bestBreak(1, 1), 0);
        DUE.is("bestBreak(1, 0)", x.bestBreak(1, 0), 0);
        DUE.is("bestBreak(-1, 1)", x.bestBreak(-1, 1), 3);
        x.steer(0, 95, -1);
        x.tear(20, 50, 1);
        DUE.is("count(5)", x.count(5), 2);
        DUE.is("bestBridge()", x.bestBridge(), 0);
        DUE.is("bestSteer(40, 95, 1)", x.bestSteer(40, 95, 1), 2);
        x.set(0, 2);
        DUE.is("bestSteer(40, 95, 1)", x.bestSteer(40, 95, 1), 3);
        x.tear(20, 50, -1);
        x.set(0, 0);
        DUE.is("bestBridge()", x.bestBridge(), 2);
    }

    private static void bestSteerErrors() {
        RollPunch x = fourNotes();
        int[] steps = {-1, 96, LOW, HIGH};
        int[] whats = {-1, 2, LOW, HIGH};
        for (int k : steps) {
            DUE.bounds("bestSteer(" + k + ", 5, 0)", () -> x.bestSteer(k, 5, 0));
            DUE.bounds("bestSteer(5, " + k + ", 2)", () -> x.bestSteer(5, k, 2));
        }
        for (int k : whats) {
            DUE.argument("bestSteer(0, 95, " + k + ")", () -> x.bestSteer(0, 95, k));
        }
        DUE.argument("bestSteer(6, 5, 0)", () -> x.bestSteer(6, 5, 0));
        DUE.argument("bestSteer(95, 0, 1)", () -> x.bestSteer(95, 0, 1));
    }

    private static void bestBridge() {
        RollPunch x = new RollPunch();
        DUE.is("bestBridge() of nothing", x.bestBridge(), 0);
        x.set(0, 3);
        x.punch(1, 0, 96);
        x.learn();
        DUE.is("bestBridge()", x.bestBridge(), 3);
        x.set(0, 0);
        DUE.is("bestBridge()", x.bestBridge(), 3);
        DUE.is("setting(0)", x.setting(0), 0);
        x.learn();
        DUE.is("bestBridge()", x.bestBridge(), 0);
        RollPunch y = new RollPunch();
        y.punch(1, 0, 5);
        y.punch(1, 8, 5);
        y.learn();
        DUE.is("1 and no more", y.bestBridge(), 1);
        y.set(0, 3);
        DUE.is("1 and no more", y.bestBridge(), 1);
        y.punch(3, 20, 1);
        y.punch(3, 23, 1);
        y.set(0, 2);
        y.learn();
        DUE.is("2 is the least with both", y.bestBridge(), 2);
    }

    private static void breaks(RollPunch x, int by, int step, int right) {
        DUE.is("bestBreak(" + by + ", 0)", x.bestBreak(by, 0), step);
        DUE.is("bestBreak(" + by + ", 1)", x.bestBreak(by, 1), right);
    }

    private static void bestBreak() {
        RollPunch x = fourNotes();
        breaks(x, 0, 0, 4);
        breaks(x, 1, 43, 4);
        breaks(x, -3, 43, 4);
        x.tear(25, 95, 2);
        breaks(x, -2, 23, 4);
        breaks(x, -1, 23, 2);
        breaks(x, 1, 23, 2);
        breaks(x, 0, 0, 2);
        x.tear(35, 95, -1);
        breaks(x, -2, 23, 3);
        breaks(x, -1, 23, 3);
        breaks(x, 3, 23, 2);
        DUE.is("nothing is changed", x.count(5) + " " + x.step(90, 1) + " " + x.count(14), "2 0 6");
        RollPunch y = fourNotes();
        y.steer(0, 95, -2);
        y.tear(0, 25, 3);
        DUE.is("count(5)", y.count(5), 0);
        breaks(y, -1, 0, 2);
        breaks(y, -3, 0, 2);
        breaks(y, 3, 0, 0);
        breaks(y, 2, 0, 2);
        RollPunch z = fourNotes();
        z.steer(0, 95, 2);
        z.tear(0, 25, -3);
        breaks(z, 3, 0, 2);
        breaks(z, 1, 0, 2);
        RollPunch w = new RollPunch();
        w.punch(0, 95, 1);
        w.learn();
        breaks(w, 1, 0, 0);
        w.punch(0, 94, 1);
        w.learn();
        breaks(w, 1, 0, 0);
        w.tear(95, 95, -1);
        breaks(w, 1, 95, 1);
        RollPunch v = new RollPunch();
        v.punch(0, 0, 1);
        v.learn();
        v.tear(0, 0, 1);
        breaks(v, -1, 0, 1);
        breaks(v, 1, 0, 0);
    }

    private static void bestBreakErrors() {
        RollPunch x = fourNotes();
        int[] beyond = {-4, 4, LOW, HIGH};
        int[] whats = {-1, 2, LOW, HIGH};
        for (int k : beyond) {
            DUE.argument("bestBreak(" + k + ", 0)", () -> x.bestBreak(k, 0));
        }
        for (int k : whats) {
            DUE.argument("bestBreak(0, " + k + ")", () -> x.bestBreak(0, k));
        }
    }

    private static void holesFor() {
        for (int bridge = 0; bridge <= 3; bridge++) {
            for (int length = 1; length <= 96; length++) {
                RollPunch x = new RollPunch();
                x.set(0, bridge);
                int holes = x.holesFor(length);
                DUE.is("holesFor(" + length + "), bridge " + bridge, holes, x.punch(4, 96 - length, length));
            }
        }
        RollPunch x = new RollPunch();
        DUE.is("holesFor(1)", x.holesFor(1), 1);
        DUE.is("holesFor(2)", x.holesFor(2), 2);
        DUE.is("holesFor(3)", x.holesFor(3), 2);
        DUE.is("holesFor(4)", x.holesFor(4), 3);
        DUE.is("holesFor(96)", x.holesFor(96), 49);
        x.set(0, 3);
        DUE.is("holesFor(96), bridge 3", x.holesFor(96), 25);
        x.set(0, 0);
        DUE.is("holesFor(96), bridge 0", x.holesFor(96), 96);
        int[] lengths = {0, -1, 97, LOW, HIGH};
        for (int k : lengths) {
            DUE.argument("holesFor(" + k + ")", () -> x.holesFor(k));
        }
    }

    private static void tuneShare() {
        RollPunch x = new RollPunch();
        DUE.isExactly("tuneShare() of nothing", x.tuneShare(), 0.0);
        x.punch(0, 0, 1);
        DUE.isExactly("tuneShare() without a tune", x.tuneShare(), 0.0);
        for (int n = 1; n <= 6; n++) {
            x.punch(n, n, 1);
        }
        x.learn();
        DUE.isExactly("tuneShare()", x.tuneShare(), 1.0);
        for (int n = 0; n <= 6; n++) {
            x.patch(n + 3, n, n);
            DUE.isExactly("tuneShare()", x.tuneShare(), (6 - n) / 7.0);
        }
        x.peel(6, 3, 3);
        x.punch(9, 50, 9);
        DUE.isExactly("tuneShare() with a wrong one", x.tuneShare(), 1 / 7.0);
    }

    // The document's list, without a bound; what "overflow" leaves of it are its last 64 bits.
    private static long digestByAnswers(Script run, String buffer) {
        BigInteger hash = BigInteger.valueOf(2371);
        for (long value : run.digestedAnswers().values()) {
            hash = hash.multiply(BigInteger.valueOf(31)).add(BigInteger.valueOf(value));
        }
        hash = hash.multiply(BigInteger.valueOf(31)).add(BigInteger.valueOf(buffer.length()));
        for (char code : buffer.toCharArray()) {
            hash = hash.multiply(BigInteger.valueOf(31)).add(BigInteger.valueOf(code));
        }
        return hash.longValue();
    }

    private static void digestOf(String when, Script run) {
        DUE.is("digest() " + when, run.ask(x -> x.digest()), digestByAnswers(run, ""));
    }

    private static void digest() {
        digestOf("of nothing", EMPTY);
        Script run = EMPTY;
        for (int note = 0; note < 20; note++) {
            int n = note;
            run = run.then(x -> x.punch(n, 2 * n, n + 1));
        }
        run = run.then(x -> x.learn());
        digestOf("of all right", run);
        run = run.then(x -> x.punch(RollPunch.NONE, 3, 20));
        for (int note = 0; note < 20; note++) {
            int n = note;
            run = run.then(x -> x.patch(n + 3, 2 * n, 2 * n));
            digestOf("of " + n + " wrong", run);
        }
        run = run.then(x -> x.tear(50, 95, 1), x -> x.steer(10, 20, -1));
        digestOf("of a torn one", run);
        digestOf("of changed settings", run.then(x -> x.set(0, 3), x -> x.set(1, 8)));
    }

    // "The length of the buffer and each of its character codes", from none to 60.
    private static void digestOfBuffers() {
        Script run = EMPTY.then(x -> x.punch(3, 4, 5), x -> x.learn());
        String[] buffers = {"!", "~", "p~", "~p", "3@4:5", "!".repeat(59), "!".repeat(60), "p@0:1,".repeat(10)};
        for (String buffer : buffers) {
            Script written = run.write(buffer);
            DUE.is("digest() with " + buffer, written.ask(x -> x.digest()), digestByAnswers(run, buffer));
            DUE.is("digest() again", written.then(x -> x.digest()).ask(x -> x.digest()),
                    digestByAnswers(run, buffer));
            DUE.is("digest() without it", written.then(x -> x.clearBuffer()).ask(x -> x.digest()),
                    digestByAnswers(run, ""));
            DUE.is("digest() with a shorter one", written.then(x -> x.clearBuffer(), x -> x.append('p'))
                    .ask(x -> x.digest()), digestByAnswers(run, "p"));
        }
    }

    // The most notes that there can be, all right, all wrong, or some of them.
    private static void digestOfMost() {
        Script most = EMPTY;
        for (int note = -1; note <= 19; note++) {
            int n = note;
            most = most.then(x -> x.punch(n, 0, 95));
        }
        most = most.then(x -> x.set(0, 0));
        digestOf("of 960 wrong ones", most);
        Script learned = most.then(x -> x.learn());
        digestOf("of 960 right ones", learned);
        digestOf("of 959 right ones", learned.then(x -> x.patch(22, 94, 94)));
        Script one = learned.then(x -> x.set(0, 1), x -> x.patch(22, 0, 93));
        DUE.is("right notes", one.ask(x -> x.count(5)), 1);
        digestOf("of one right note", one);
        digestOf("of a full roll", learned.then(x -> x.punch(0, 0, 96), x -> x.set(0, 3)));
    }

    // The spans of bestSteer within the digest, by notes at their first and last steps.
    private static void digestOfSpans() {
        int[] steps = {0, 1, 46, 47, 48, 49, 94, 95};
        for (int torn : steps) {
            Script run = EMPTY.then(x -> x.set(0, 0));
            for (int i = 0; i < steps.length; i++) {
                int n = 2 * i;
                int s = steps[i];
                run = run.then(x -> x.punch(n, s, 1));
            }
            run = run.then(x -> x.learn(), x -> x.tear(torn, torn, 1));
            digestOf("with step " + torn + " torn", run);
            run = run.then(x -> x.tear(0, 95, -1));
            digestOf("with all others torn", run);
            digestOf("with all torn", run.then(x -> x.tear(0, 95, -1)));
        }
    }

    // The bits of shares that can be written down in binary digits and of such that can't.
    private static void digestOfShares() {
        for (int notes = 1; notes <= 13; notes++) {
            Script run = EMPTY;
            for (int note = 0; note < notes; note++) {
                int n = note;
                run = run.then(x -> x.punch(n, 7 * n, 1));
            }
            run = run.then(x -> x.learn());
            for (int note = 0; note < notes; note++) {
                int n = note;
                digestOf("of a share of " + (notes - n) + " in " + notes, run);
                run = run.then(x -> x.patch(n + 3, 7 * n, 7 * n));
            }
            digestOf("of a share of 0", run);
        }
    }

    // "By which most notes would be right, of several the one nearest to 0, of two the one below 0."
    private static void everySteering() {
        Script pair = EMPTY.then(x -> x.punch(8, 10, 3), x -> x.punch(8, 80, 3), x -> x.learn());
        for (int first = -3; first <= 3; first++) {
            for (int second = -3; second <= 3; second++) {
                int a = first;
                int b = second;
                RollPunch x = pair.then(y -> y.tear(0, 47, a), y -> y.tear(48, 95, b)).play();
                boolean isFirst = Math.abs(a) < Math.abs(b) || Math.abs(a) == Math.abs(b) && a > 0;
                best(x, 0, 95, isFirst ? -a : -b, a == b ? 2 : 1);
                best(x, 0, 47, -a, b == 0 ? 2 : 1);
                best(x, 48, 95, -b, a == 0 ? 2 : 1);
            }
        }
    }

    // "Of all these steps": what the steering was there doesn't matter, beside them it stays.
    private static void steeringThatIs() {
        for (int was = -3; was <= 3; was++) {
            int w = was;
            Script pair = EMPTY.then(x -> x.punch(8, 10, 3), x -> x.punch(8, 80, 3), x -> x.learn(),
                    x -> x.steer(0, 95, w));
            RollPunch x = pair.play();
            best(x, 0, 95, 0, 2);
            best(x, 0, 47, 0, w == 0 ? 2 : 1);
            best(x, 48, 95, 0, w == 0 ? 2 : 1);
            best(x, 10, 12, 0, w == 0 ? 2 : 1);
            best(x, 82, 82, 0, w == 0 ? 2 : 0);
            DUE.is("steering at the ends", x.step(0, 1) + " " + x.step(95, 1), w + " " + w);
            DUE.is("count(14)", x.count(14), 4);
        }
        best(EMPTY.then(x -> x.punch(8, 10, 3)).play(), 0, 95, 0, 0);
        best(EMPTY.then(x -> x.punch(8, 10, 3), x -> x.steer(0, 95, -3)).play(), 0, 95, 0, 0);
    }

    // What the steering would bring together or take apart counts as well.
    private static void steeringMakesChains() {
        Script row = EMPTY.then(x -> x.set(0, 0), x -> x.punch(8, 20, 6), x -> x.learn(), x -> x.tear(22, 23, 2));
        best(row.play(), 22, 23, -2, 1);
        best(row.play(), 22, 22, 0, 0);
        best(row.play(), 21, 24, 0, 0);
        best(row.then(x -> x.set(0, 1)).play(), 22, 22, -2, 1);
        best(row.then(x -> x.set(0, 2)).play(), 22, 23, 0, 1);
        Script beside = EMPTY.then(x -> x.punch(8, 20, 3), x -> x.learn(), x -> x.punch(9, 23, 3));
        best(beside.play(), 23, 95, 0, 1);
        best(beside.then(x -> x.steer(23, 95, 1)).play(), 23, 95, 0, 1);
    }

    // "The value of setting 0, of several the least one": each one is the least of some.
    private static void everyBridge() {
        for (int bridge = 0; bridge <= 3; bridge++) {
            int b = bridge;
            Script learned = EMPTY.then(x -> x.set(0, b), x -> x.punch(4, 0, 1), x -> x.punch(4, 1 + b, 1),
                    x -> x.punch(4, 90, 1), x -> x.learn());
            for (int now = 0; now <= 3; now++) {
                int n = now;
                Script set = learned.then(x -> x.set(0, n));
                DUE.is("bestBridge() of a gap of " + b + ", bridge " + n, set.ask(x -> x.bestBridge()), b);
                DUE.is("setting(0) behind it", set.then(x -> x.bestBridge()).ask(x -> x.setting(0)), n);
            }
        }
        DUE.is("bestBridge() without a tune", EMPTY.then(x -> x.set(0, 3), x -> x.punch(4, 0, 96))
                .ask(x -> x.bestBridge()), 0);
        DUE.is("bestBridge() with none right", EMPTY.then(x -> x.punch(4, 0, 9), x -> x.learn(), x -> x.shift(1))
                .ask(x -> x.bestBridge()), 0);
        Script apart = EMPTY.then(x -> x.punch(4, 0, 1), x -> x.punch(4, 3, 1), x -> x.punch(5, 0, 1),
                x -> x.punch(5, 2, 1), x -> x.learn());
        DUE.is("one chain and two chains", apart.ask(x -> x.bestBridge()), 1);
        DUE.is("two right by 0, one right by 1", apart.then(x -> x.patch(8, 0, 95), x -> x.set(0, 3))
                .ask(x -> x.bestBridge()), 0);
    }

    // "Those that would be beyond -3 or 3 being -3 or 3."
    private static void breaksAtTheEndsOfTheRange() {
        for (int was = -3; was <= 3; was++) {
            for (int by = -3; by <= 3; by++) {
                int w = was;
                int b = by;
                int then = Math.max(-3, Math.min(3, w + b));
                Script pair = EMPTY.then(x -> x.punch(8, 0, 1), x -> x.punch(8, 95, 1), x -> x.learn(),
                        x -> x.steer(0, 95, w));
                RollPunch helped = pair.then(x -> x.tear(0, 95, -then)).play();
                breaks(helped, b, 0, 2);
                RollPunch good = pair.then(x -> x.tear(0, 95, -w)).play();
                breaks(good, b, then == w ? 0 : 1, then == w ? 2 : 1);
                RollPunch half = pair.then(x -> x.tear(0, 94, -w), x -> x.tear(95, 95, -then)).play();
                breaks(half, b, then == w ? 0 : 1, 2);
                DUE.is("the steering stays", half.step(0, 1) + " " + half.step(95, 1), w + " " + w);
            }
        }
    }

    // "Of several the least one": a break at each step, with a note at its side.
    private static void everyBreak() {
        for (int step = 1; step <= 95; step++) {
            int s = step;
            Script torn = EMPTY.then(x -> x.punch(8, s - 1, 1), x -> x.set(0, 0), x -> x.punch(9, s, 1),
                    x -> x.learn(), x -> x.tear(s, 95, -1));
            breaks(torn.play(), 1, s, 2);
            breaks(torn.play(), 0, 0, 1);
            Script before = EMPTY.then(x -> x.punch(9, s, 1), x -> x.learn(), x -> x.tear(s, 95, -1));
            breaks(before.play(), 1, 0, 1);
            breaks(before.play(), -1, 0, 0);
        }
        breaks(EMPTY.play(), 3, 0, 0);
        breaks(EMPTY.then(x -> x.punch(8, 0, 96)).play(), -3, 0, 0);
        Script whole = EMPTY.then(x -> x.punch(8, 0, 96), x -> x.learn());
        breaks(whole.play(), 1, 0, 0);
        breaks(whole.play(), 0, 0, 1);
        Script nearly = EMPTY.then(x -> x.punch(8, 0, 95), x -> x.learn());
        breaks(nearly.play(), 1, 95, 1);
    }

    // "The step", and "a roll has 96 steps": to steer nowhere is no choice, even if each break harms.
    private static void breakIsAStep() {
        Script last = EMPTY.then(x -> x.punch(8, 10, 1), x -> x.punch(8, 95, 1), x -> x.learn());
        for (int by = -3; by <= 3; by++) {
            int b = by;
            DUE.is("right as it is", last.ask(x -> x.count(5)), 2);
            breaks(last.play(), b, b == 0 ? 0 : 11, b == 0 ? 2 : 1);
        }
        Script alone = EMPTY.then(x -> x.punch(8, 95, 1), x -> x.learn());
        breaks(alone.play(), 2, 0, 0);
        DUE.is("right as it is", alone.then(x -> x.bestBreak(2, 1)).ask(x -> x.count(5)), 1);
    }

    // "How many holes punch() makes for this length", on a roll where there are none.
    private static void holesForBorders() {
        int[][] due = {{1, 2, 3, 4, 5, 6, 95, 96}, {1, 2, 2, 3, 3, 4, 48, 49}, {1, 2, 2, 2, 3, 3, 33, 33},
            {1, 2, 2, 2, 2, 3, 25, 25}};
        int[] lengths = {1, 2, 3, 4, 5, 6, 95, 96};
        for (int bridge = 0; bridge <= 3; bridge++) {
            int b = bridge;
            for (int i = 0; i < lengths.length; i++) {
                int length = lengths[i];
                Script run = EMPTY.then(x -> x.set(0, b));
                String call = "holesFor(" + length + "), bridge " + b;
                DUE.is(call, run.ask(x -> x.holesFor(length)), due[b][i]);
                DUE.is(call + ", on a full roll", run.then(x -> x.punch(0, 0, 96), x -> x.patch(3, 0, 95))
                        .ask(x -> x.holesFor(length)), due[b][i]);
                DUE.is("punch() of it", run.ask(x -> x.punch(0, 0, length)), due[b][i]);
            }
        }
    }

    // "count(5), as a double, divided by count(4); 0.0 if that is 0."
    private static void shares() {
        DUE.isExactly("nothing", EMPTY.play().tuneShare(), 0.0);
        DUE.isExactly("none learned", EMPTY.then(x -> x.punch(0, 0, 1)).play().tuneShare(), 0.0);
        DUE.isExactly("silence learned", EMPTY.then(x -> x.learn()).play().tuneShare(), 0.0);
        for (int notes = 1; notes <= 20; notes++) {
            Script run = EMPTY;
            for (int note = 0; note < notes; note++) {
                int n = note;
                run = run.then(x -> x.punch(n, 4, 1));
            }
            run = run.then(x -> x.learn());
            DUE.isExactly("all of " + notes, run.play().tuneShare(), 1.0);
            for (int gone = 1; gone <= notes; gone++) {
                int g = gone;
                run = run.then(x -> x.patch(2 + g, 4, 4));
                DUE.isExactly((notes - g) + " of " + notes, run.play().tuneShare(), (double) (notes - g) / notes);
            }
        }
    }

    public static void main(String[] args) {
        bestSteer();
        bestSteerOfOneStep();
        everySteering();
        steeringThatIs();
        steeringMakesChains();
        bestSteerErrors();
        questionsInTurn();
        bestBridge();
        everyBridge();
        bestBreak();
        breaksAtTheEndsOfTheRange();
        everyBreak();
        breakIsAStep();
        bestBreakErrors();
        holesFor();
        holesForBorders();
        tuneShare();
        shares();
        digest();
        digestOfBuffers();
        digestOfMost();
        digestOfSpans();
        digestOfShares();
        DUE.end();
    }
}
