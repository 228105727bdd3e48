/** The borders that the document's "Terms" name for the roll, the chains, the pedal, its wish and the tune. */
public final class TermsTest {
    private static final Due DUE = new Due("TermsTest");
    private static final int NONE = RollPunch.NONE;
    private static final Script EMPTY = new Script();

    private static Script punched(int note, int step, int length) {
        return EMPTY.then(x -> x.punch(note, step, length));
    }

    private static Script singles(Script before, int note, int... steps) {
        Script longer = before;
        for (int s : steps) {
            longer = longer.then(x -> x.punch(note, s, 1));
        }
        return longer;
    }

    private static void played(String when, Script run, String due) {
        DUE.is("played, " + when, Due.played(run.play()), due);
    }

    // "A roll has 96 steps and 26 tracks": holes and patches at its four corners.
    private static void corners() {
        Script holes = EMPTY.then(x -> x.punch(19, 0, 1), x -> x.punch(19, 95, 1), x -> x.shift(3));
        DUE.is("tracks with open holes at the first step", holes.ask(x -> x.step(0, 6)), 1 << 25);
        DUE.is("tracks with open holes at the last step", holes.ask(x -> x.step(95, 6)), 1 << 25);
        DUE.is("tracks with open holes at the step before it", holes.ask(x -> x.step(94, 6)), 0);
        holes = EMPTY.then(x -> x.punch(NONE, 0, 1), x -> x.punch(NONE, 95, 1), x -> x.shift(-2));
        DUE.is("track 0 at the first step", holes.ask(x -> x.step(0, 6)), 1);
        DUE.is("track 0 at the last step", holes.ask(x -> x.step(95, 6)), 1);
        Script patches = EMPTY.then(x -> x.patch(0, 0, 0), x -> x.patch(25, 0, 0), x -> x.patch(0, 95, 95),
                x -> x.patch(25, 95, 95));
        DUE.is("patches", patches.ask(x -> x.count(2)), 4);
        for (int corner = 0; corner < 4; corner++) {
            int s = 95 * (corner % 2);
            int t = 25 * (corner / 2);
            DUE.is("place(" + s + ", " + t + ", 1)", patches.ask(x -> x.place(s, t, 1)), 1);
            DUE.is("place(" + s + ", " + t + ", 0)", patches.ask(x -> x.place(s, t, 0)), 0);
        }
    }

    // "A hole is open if there is no patch over it."
    private static void openHole() {
        Script run = singles(EMPTY, 4, 0, 1).then(x -> x.patch(7, 1, 2));
        int[][] due = {{1, 0, 1}, {1, 1, 0}, {0, 1, 0}, {0, 0, 0}};
        for (int step = 0; step < due.length; step++) {
            int s = step;
            DUE.is("a hole at " + s, run.ask(x -> x.place(s, 7, 0)), due[s][0]);
            DUE.is("a patch at " + s, run.ask(x -> x.place(s, 7, 1)), due[s][1]);
            DUE.is("an open hole at " + s, run.ask(x -> x.step(s, 6)), due[s][2] << 7);
            DUE.is("played at " + s, run.ask(x -> x.step(s, 2)), due[s][2] << 4);
        }
    }

    // "The track that is the own track plus the edge plus the steering (nothing, if there is no such track)."
    private static void trackThatIsRead() {
        for (int edge = -3; edge <= 3; edge++) {
            for (int steering = -3; steering <= 3; steering++) {
                int e = edge;
                int v = steering;
                RollPunch x = EMPTY.then(y -> y.tear(95, 95, e), y -> y.steer(95, 95, v)).play();
                for (int t = 0; t < 26; t++) {
                    int own = t - e - v;
                    int due = own == 2 ? -2 : own >= 3 && own <= 22 ? own - 3 : -1;
                    DUE.is("place(95, " + t + ", 2), edge " + e + ", steering " + v, x.place(95, t, 2), due);
                }
                DUE.is("place(94, 2, 2)", x.place(94, 2, 2), -2);
            }
        }
    }

    // The pedal beside track 0 and the last note beside track 25.
    private static void readAtTheBorders() {
        Script pedal = punched(NONE, 9, 1).then(x -> x.shift(-2));
        DUE.is("the pedal on track 0", pedal.ask(x -> x.count(12)), 1);
        DUE.is("read by an edge of -2", pedal.then(x -> x.tear(9, 9, -2)).ask(x -> x.count(8)), 1);
        DUE.is("read by edge and steering", pedal.then(x -> x.tear(9, 9, -3), x -> x.steer(9, 9, 1))
                .ask(x -> x.step(9, 4)), 1);
        DUE.is("not by an edge of -3", pedal.then(x -> x.tear(9, 9, -3)).ask(x -> x.count(8)), 0);
        played("note 0 reads track 0", pedal.then(x -> x.tear(9, 9, -3)), "0 9 9 9 1 0");
        played("note 3 reads track 0", pedal.then(x -> x.tear(9, 9, -3), x -> x.steer(9, 9, -3)), "3 9 9 9 1 0");
        Script last = punched(19, 9, 1).then(x -> x.shift(3));
        DUE.is("track 25", last.ask(x -> x.count(12)), 1);
        played("note 19 reads track 25", last.then(x -> x.tear(9, 9, 3)), "19 9 9 9 1 0");
        played("not track 24", last.then(x -> x.tear(9, 9, 2)), "");
        played("note 18 by one more", last.then(x -> x.tear(9, 9, 3), x -> x.steer(9, 9, 1)), "18 9 9 9 1 0");
        played("note 16 by three more", last.then(x -> x.tear(9, 9, 3), x -> x.steer(9, 9, 3)), "16 9 9 9 1 0");
    }

    // "At most as many others as setting 0 tells": the widest gap of a chain, and one more.
    private static void gaps() {
        for (int bridge = 0; bridge <= 3; bridge++) {
            int b = bridge;
            for (int note = -1; note <= 19; note++) {
                Script one = singles(EMPTY.then(x -> x.set(0, b)), note, 40, 41 + b, 42 + 2 * b);
                Script two = singles(EMPTY.then(x -> x.set(0, b)), note, 40, 42 + b);
                int what = note == NONE ? 8 : 3;
                DUE.is("chains of " + note + ", bridge " + b, one.ask(x -> x.count(what)), 1);
                DUE.is("chains of " + note + " by one more, bridge " + b, two.ask(x -> x.count(what)), 2);
            }
            int last = 42 + 2 * b;
            played("bridge " + b, singles(EMPTY.then(x -> x.set(0, b)), 3, 40, 41 + b, last),
                    "3 40 " + last + " " + last + " 3 0");
            played("one more than bridge " + b, singles(EMPTY.then(x -> x.set(0, b)), 3, 40, 42 + b),
                    "3 40 40 40 1 0, 3 " + (42 + b) + " " + (42 + b) + " " + (42 + b) + " 1 0");
        }
    }

    // Steps between of which the hole is below a patch, or is not read, are others as well.
    private static void othersBetween() {
        Script row = EMPTY.then(x -> x.set(0, 0), x -> x.punch(6, 50, 5));
        played("holes next to each other", row, "6 50 54 54 5 0");
        played("a patch, bridge 0", row.then(x -> x.patch(9, 52, 52)), "6 50 51 51 2 0, 6 53 54 54 2 0");
        played("a patch, bridge 1", row.then(x -> x.patch(9, 52, 52), x -> x.set(0, 1)), "6 50 54 54 4 0");
        played("two patches, bridge 1", row.then(x -> x.patch(9, 51, 52), x -> x.set(0, 1)),
                "6 50 50 50 1 0, 6 53 54 54 2 0");
        played("two aside, bridge 2", row.then(x -> x.tear(51, 52, 1), x -> x.set(0, 2)),
                "6 50 54 54 3 0, 5 51 52 52 2 0");
        played("patches at the ends", row.then(x -> x.patch(9, 0, 50), x -> x.patch(9, 54, 95)), "6 51 53 53 3 0");
    }

    // "A chain is as long as it can be", from a single step to the whole roll.
    private static void lengths() {
        played("nothing", EMPTY, "");
        played("the first step", punched(11, 0, 1), "11 0 0 0 1 0");
        played("the last step", punched(11, 95, 1), "11 95 95 95 1 0");
        played("the first two", punched(11, 0, 2), "11 0 1 1 2 0");
        played("the last two", punched(11, 94, 2), "11 94 95 95 2 0");
        played("the whole roll", punched(11, 0, 96), "11 0 95 95 49 0");
        Script wide = EMPTY.then(x -> x.set(0, 3), x -> x.punch(11, 0, 96));
        played("the whole roll by a bridge of 3", wide, "11 0 95 95 25 0");
        DUE.is("chains of it without the bridge", wide.then(x -> x.set(0, 0)).ask(x -> x.count(3)), 25);
        DUE.is("both ends alone", singles(EMPTY, 11, 0, 95).ask(x -> x.count(3)), 2);
    }

    // "The pedal is down from the first to the last step of each of its chains."
    private static void pedalDown() {
        Script run = EMPTY.then(x -> x.punch(NONE, 0, 3), x -> x.punch(NONE, 50, 1), x -> x.punch(NONE, 93, 3));
        DUE.is("down at the first ones", Due.steps(run.play(), 4, 0, 3), "1 1 1 0");
        DUE.is("down at one", Due.steps(run.play(), 4, 49, 51), "0 1 0");
        DUE.is("down at the last ones", Due.steps(run.play(), 4, 92, 95), "0 1 1 1");
        DUE.is("chains", run.ask(x -> x.count(8)), 3);
        DUE.is("steps", run.ask(x -> x.count(9)), 7);
        DUE.is("chains of the whole roll", punched(NONE, 0, 96).ask(x -> x.count(8)), 1);
        DUE.is("steps of the whole roll", punched(NONE, 0, 96).ask(x -> x.count(9)), 96);
        DUE.is("the pedal is no note", punched(NONE, 0, 96).ask(x -> x.count(3)), 0);
        DUE.is("nor is it played", punched(NONE, 0, 96).ask(x -> x.step(50, 2)), 0);
        DUE.is("nor does it sound", punched(NONE, 0, 96).ask(x -> x.step(50, 3)), 0);
    }

    private static void sound(String when, Script run, int place, int due) {
        DUE.is("the last sound, " + when, run.ask(x -> x.played(place, 3)), due);
        int note = (int) run.ask(x -> x.played(place, 0));
        int last = (int) run.ask(x -> x.played(place, 2));
        for (int step = last; step <= due; step++) {
            int s = step;
            DUE.is("sound at " + s + ", " + when, run.ask(x -> x.step(s, 3)) >> note & 1, 1);
        }
        if (due < 95) {
            long behind = run.ask(x -> x.step(due + 1, 3) & ~x.step(due + 1, 2));
            DUE.is("sound at " + (due + 1) + ", if it is not played there, " + when, behind >> note & 1, 0);
        }
    }

    // "If the pedal is down at that last step, it sounds on to the last step of this chain of the pedal."
    private static void sounding() {
        Script note = punched(5, 20, 3);
        sound("no pedal", note, 0, 22);
        sound("the pedal from the last step", note.then(x -> x.punch(NONE, 22, 9)), 0, 30);
        sound("the pedal from the step behind", note.then(x -> x.punch(NONE, 23, 8)), 0, 22);
        sound("the pedal to the step before the last", note.then(x -> x.punch(NONE, 10, 12)), 0, 22);
        sound("the pedal to the last step", note.then(x -> x.punch(NONE, 10, 13)), 0, 22);
        sound("the pedal to the step behind", note.then(x -> x.punch(NONE, 10, 14)), 0, 23);
        sound("the pedal at the last step alone", note.then(x -> x.punch(NONE, 22, 1)), 0, 22);
        sound("the pedal between two of its holes", singles(note, NONE, 21, 23), 0, 23);
        sound("the pedal up at the last step", note.then(x -> x.set(0, 0), x -> x.punch(5, 21, 1),
                x -> x.punch(NONE, 21, 1), x -> x.punch(NONE, 23, 9)), 0, 22);
        sound("this chain alone", note.then(x -> x.punch(NONE, 22, 9), x -> x.punch(NONE, 33, 9)), 0, 30);
        sound("one chain by the bridge", note.then(x -> x.punch(NONE, 22, 9), x -> x.punch(NONE, 32, 9)), 0, 40);
        sound("to the end of the roll", note.then(x -> x.punch(NONE, 0, 96)), 0, 95);
        sound("to the step before it", note.then(x -> x.punch(NONE, 0, 95)), 0, 94);
        sound("the last step of the roll", punched(5, 95, 1).then(x -> x.punch(NONE, 95, 1)), 0, 95);
        sound("the first step of the roll", punched(5, 0, 1).then(x -> x.punch(NONE, 0, 2)), 0, 1);
        sound("note 19", punched(19, 20, 1).then(x -> x.punch(NONE, 20, 5)), 0, 24);
        sound("note 0", punched(0, 20, 1).then(x -> x.punch(NONE, 20, 5)), 0, 24);
    }

    // "But not longer than to the step before the next chain of the same note."
    private static void nextChain() {
        Script held = punched(5, 20, 3).then(x -> x.punch(NONE, 22, 19));
        sound("no next chain", held, 0, 40);
        sound("the next chain behind the pedal", singles(held, 5, 42), 0, 40);
        sound("the next chain at the step behind the pedal", singles(held, 5, 41), 0, 40);
        sound("the next chain at the pedal's last step", singles(held, 5, 40), 0, 39);
        sound("the next chain a step earlier", singles(held, 5, 39), 0, 38);
        sound("the next chain as near as can be", singles(held, 5, 25), 0, 24);
        sound("the nearest of two chains", singles(held, 5, 35, 30), 0, 29);
        sound("the next one sounds on as well", singles(held, 5, 30), 1, 40);
        sound("the last one at the pedal's last step", singles(held, 5, 40), 1, 40);
        sound("another note", singles(held, 4, 25), 0, 40);
        sound("the note above", singles(held, 6, 25), 0, 40);
        sound("without a bridge", EMPTY.then(x -> x.set(0, 0), x -> x.punch(5, 22, 1), x -> x.punch(5, 24, 1),
                x -> x.punch(NONE, 22, 9)), 0, 23);
        sound("a next hole below a patch", singles(held, 5, 30).then(x -> x.patch(8, 30, 30)), 0, 40);
        sound("a next hole that is not read", singles(held, 5, 31).then(x -> x.tear(31, 31, 1)), 0, 40);
    }

    // "In the order of their first steps, those with the same one in the order of their numbers."
    private static void order() {
        Script run = EMPTY.then(x -> x.punch(19, 4, 9), x -> x.punch(0, 5, 1), x -> x.punch(18, 4, 1),
                x -> x.punch(2, 95, 1), x -> x.punch(1, 95, 1), x -> x.punch(19, 0, 2), x -> x.punch(0, 4, 1));
        String due = "19 0 1 1 2 0, 0 4 5 5 2 0, 18 4 4 4 1 0, 19 4 12 12 5 0, 1 95 95 95 1 0, 2 95 95 95 1 0";
        played("in their order", run, due);
        Script learned = run.then(x -> x.learn());
        DUE.is("the tune in the same order", Due.tune(learned.play()),
                "19 0 1 0, 0 4 5 0, 18 4 4 0, 19 4 12 0, 1 95 95 0, 2 95 95 0");
        Script column = EMPTY;
        for (int note = 19; note >= 0; note--) {
            int n = note;
            column = column.then(x -> x.punch(n, 7, 1));
        }
        for (int note = 0; note < 20; note++) {
            int n = note;
            DUE.is("played(" + n + ", 0)", column.ask(x -> x.played(n, 0)), n);
        }
        DUE.is("all notes played at a step", column.ask(x -> x.step(7, 2)), (1 << 20) - 1);
        DUE.is("all notes sounding at a step", column.ask(x -> x.step(7, 3)), (1 << 20) - 1);
    }

    private static void wished(String when, Script run, int from, int to, String due) {
        DUE.is("wished, " + when, Due.steps(run.play(), 5, from, to), due);
    }

    // "At one of the last steps before it (as many as setting 1 tells), at one of as many steps after it."
    private static void reach() {
        for (int reach = 0; reach <= 8; reach++) {
            int r = reach;
            Script set = EMPTY.then(x -> x.set(1, r));
            DUE.is("reach " + r + ", as far as it goes, behind", singles(set, 3, 40, 41 + r + 1)
                    .ask(x -> x.step(40 + r, 5)), r >= 2 ? 1 : 0);
            for (int gap = 3; gap <= 18; gap++) {
                int last = 40 + gap;
                int width = Math.max(0, Math.min(gap - 1, 2 * r - gap + 1));
                Script run = singles(set, 3, 40, last);
                DUE.is("reach " + r + ", count(10) of a gap of " + gap, run.ask(x -> x.count(10)), width);
            }
        }
        wished("reach 2, 2 before and 1 after", singles(EMPTY, 3, 40, 43), 39, 44, "0 0 1 1 0 0");
        wished("reach 2, 2 before and 2 after", singles(EMPTY, 3, 40, 44), 39, 45, "0 0 0 1 0 0 0");
        wished("reach 2, none in the reach of both", singles(EMPTY, 3, 40, 45), 39, 46, "0 0 0 0 0 0 0 0");
        wished("reach 1", singles(EMPTY.then(x -> x.set(1, 1), x -> x.set(0, 0)), 3, 40, 42), 39, 43, "0 0 1 0 0");
        wished("reach 1, a step more", singles(EMPTY.then(x -> x.set(1, 1)), 3, 40, 43), 39, 44, "0 0 0 0 0 0");
    }

    // "If no note is played there (pedal aside)", "if a note is played", "if a note begins".
    private static void wish() {
        Script wide = EMPTY.then(x -> x.set(1, 8));
        Script two = singles(wide, 3, 40, 44);
        wished("two notes", two, 39, 45, "0 0 1 1 1 0 0");
        wished("another note between", singles(two, 9, 42), 39, 45, "0 0 1 0 1 0 0");
        wished("another note over all", two.then(x -> x.punch(9, 39, 7)), 38, 46, "0 0 0 0 0 0 0 0 0");
        wished("the pedal over all", two.then(x -> x.punch(NONE, 30, 30)), 39, 45, "0 0 1 1 1 0 0");
        wished("between holes of one chain", wide.then(x -> x.punch(3, 40, 5)), 38, 46, "0 0 0 0 0 0 0 0 0");
        wished("other notes before and after", singles(singles(wide, 0, 40), 19, 43), 39, 44, "0 0 1 1 0 0");
        wished("the pedal is no note before", singles(singles(wide, NONE, 40), 3, 43), 39, 44, "0 0 0 0 0 0");
        wished("the pedal is no note after", singles(singles(wide, 3, 40), NONE, 43), 39, 44, "0 0 0 0 0 0");
        Script longer = EMPTY.then(x -> x.punch(3, 30, 11), x -> x.punch(3, 43, 9));
        wished("near the last step of a long one", longer, 39, 44, "0 0 1 1 0 0");
        Script held = EMPTY.then(x -> x.set(1, 2), x -> x.punch(3, 40, 1), x -> x.punch(NONE, 40, 9),
                x -> x.punch(4, 50, 1));
        wished("a note that only sounds on is not played", held, 40, 50, "0 0 0 0 0 0 0 0 0 0 0");
        wished("it may be wished while it sounds", singles(held, 7, 43), 40, 44, "0 1 1 0 0");
    }

    // "Each chain of a note is a note that is played, from its first to its last step": to sound on,
    // held by the pedal, is not to be played.
    private static void wishWhileSounding() {
        Script two = singles(EMPTY.then(x -> x.set(1, 3)), 3, 40, 50).then(x -> x.punch(NONE, 40, 11));
        DUE.is("it sounds on", two.ask(x -> x.played(0, 3)), 49);
        wished("the reach is counted from the last step that is played", two, 40, 50, "0 0 0 0 0 0 0 0 0 0 0");
        wished("a step short of the least reach", two.then(x -> x.set(1, 4)), 40, 50, "0 0 0 0 0 0 0 0 0 0 0");
        wished("the least reach", two.then(x -> x.set(1, 5)), 40, 50, "0 0 0 0 0 1 0 0 0 0 0");
        wished("sounding is not in the way", two.then(x -> x.set(1, 8)), 40, 50, "0 0 1 1 1 1 1 1 1 0 0");
        Script without = two.then(x -> x.set(1, 8), x -> x.patch(2, 0, 95));
        wished("the same without the pedal", without, 40, 50, "0 0 1 1 1 1 1 1 1 0 0");
    }

    // At both ends of the roll there are fewer steps before or after.
    private static void wishAtTheEnds() {
        Script wide = EMPTY.then(x -> x.set(1, 8));
        DUE.is("an empty roll", wide.ask(x -> x.count(10)), 0);
        wished("nothing before", singles(wide, 3, 4), 0, 5, "0 0 0 0 0 0");
        wished("nothing after", singles(wide, 3, 91), 90, 95, "0 0 0 0 0 0");
        wished("from step 0", singles(wide, 3, 0, 3), 0, 4, "0 1 1 0 0");
        wished("to step 95", singles(wide, 3, 92, 95), 91, 95, "0 0 1 1 0");
        wished("not around the ends", singles(wide, 3, 2, 93), 0, 3, "0 0 0 0");
        wished("not around the ends", singles(wide, 3, 2, 93), 92, 95, "0 0 0 0");
    }

    // "Right if there is the same note with the same first and last steps in the tune, otherwise wrong."
    private static void rightWrongMissing() {
        Script tune = punched(5, 20, 5).then(x -> x.learn());
        counts("the same", tune, "1 1 1 0 0");
        counts("a step shorter at its end", tune.then(x -> x.patch(8, 24, 24)), "1 1 0 1 1");
        counts("a step shorter at its beginning", tune.then(x -> x.patch(8, 20, 20)), "1 1 0 1 1");
        counts("a step longer at its end", tune.then(x -> x.punch(5, 25, 1)), "1 1 0 1 1");
        counts("a step longer at its beginning", tune.then(x -> x.punch(5, 19, 1)), "1 1 0 1 1");
        counts("the note above", tune.then(x -> x.shift(1)), "1 1 0 1 1");
        counts("the note below", tune.then(x -> x.shift(-1)), "1 1 0 1 1");
        counts("other holes between", tune.then(x -> x.set(0, 3), x -> x.patch(8, 22, 22)), "1 1 1 0 0");
        counts("in two", tune.then(x -> x.set(0, 0)), "3 1 0 3 1");
        counts("one more", tune.then(x -> x.punch(5, 30, 1)), "2 1 1 1 0");
        counts("not played", tune.then(x -> x.patch(8, 0, 95)), "0 1 0 0 1");
        counts("an empty tune", punched(5, 20, 5), "1 0 0 1 0");
        counts("nothing at all", EMPTY, "0 0 0 0 0");
        Script pair = EMPTY.then(x -> x.punch(5, 20, 3), x -> x.punch(5, 26, 3), x -> x.learn());
        counts("two in one", pair.then(x -> x.punch(5, 24, 1)), "1 2 0 1 2");
        counts("one of two", pair.then(x -> x.punch(5, 29, 1)), "2 2 1 1 1");
        Script ends = EMPTY.then(x -> x.punch(5, 0, 1), x -> x.punch(5, 95, 1), x -> x.punch(19, 0, 96),
                x -> x.learn());
        counts("at the ends of the roll", ends, "3 3 3 0 0");
    }

    private static void counts(String when, Script run, String due) {
        RollPunch x = run.play();
        StringBuilder row = new StringBuilder();
        for (int what = 3; what <= 7; what++) {
            row.append(what > 3 ? " " : "").append(x.count(what));
        }
        DUE.is("played, tune, right, wrong, missing: " + when, row.toString(), due);
    }

    // The 512th call of an object answers as an early one does, though all before were dear ones.
    private static void the512thCall() {
        Script full = EMPTY;
        for (int note = 0; note <= 19; note++) {
            int n = note;
            full = full.then(x -> x.punch(n, 0, 95));
        }
        full = full.then(x -> x.set(0, 0), x -> x.learn());
        Script late = full;
        for (int calls = 22; calls < 511; calls++) {
            late = late.then(x -> x.bestBreak(3, 1));
        }
        DUE.is("digest() as the 512th call", late.ask(x -> x.digest()), full.ask(x -> x.digest()));
        DUE.is("count(5) as the 512th call", late.ask(x -> x.count(5)), 960);
        DUE.is("shift(3) as the 512th call", late.ask(x -> x.shift(3)), 17 * 48);
        DUE.is("punch(NONE, 0, 96) as the 512th call", late.ask(x -> x.punch(NONE, 0, 96)), 96);
        DUE.is("append(126) as the 512th call", late.ask(x -> x.append(126)), 1);
        DUE.is("undo() as the 512th call", late.ask(x -> x.undo()), 5);
        DUE.is("played(959, 3) as the 512th call", late.ask(x -> x.played(959, 3)), 94);
        RollPunch x = late.play();
        DUE.bounds("played(960, 3) as the 512th call", () -> x.played(960, 3));
    }

    public static void main(String[] args) {
        corners();
        openHole();
        trackThatIsRead();
        readAtTheBorders();
        gaps();
        othersBetween();
        lengths();
        pedalDown();
        sounding();
        nextChain();
        order();
        reach();
        wish();
        wishWhileSounding();
        wishAtTheEnds();
        rightWrongMissing();
        the512thCall();
        DUE.end();
    }
}
