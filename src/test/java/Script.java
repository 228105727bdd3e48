import java.util.ArrayList;
import java.util.Arrays;
import java.util.LinkedHashMap;
import java.util.List;
import java.util.Map;

/**
 * A run of calls that can be made anew on a fresh object. All that can be asked for after it is more
 * than the 512 calls that an object is good for: so the questions are shared out among several ones.
 */
final class Script {
    interface Made {
        long on(RollPunch x);
    }

    private static final int MOST_CALLS = 512;
    private static final int[][] SPANS = {{0, 95}, {0, 47}, {48, 95}};

    private final List<Made> calls;

    Script() {
        this(new ArrayList<>());
    }

    private Script(List<Made> calls) {
        this.calls = calls;
    }

    Script then(Made... more) {
        List<Made> all = new ArrayList<>(calls);
        all.addAll(Arrays.asList(more));
        return new Script(all);
    }

    Script write(String text) {
        Script longer = this;
        for (char c : text.toCharArray()) {
            longer = longer.then(x -> x.append(c));
        }
        return longer;
    }

    Script undone(int times) {
        Script longer = this;
        for (int i = 0; i < times; i++) {
            longer = longer.then(x -> x.undo());
        }
        return longer;
    }

    /** With a call behind it that may throw. */
    Script tried(Made call) {
        return then(x -> {
            try {
                return call.on(x);
            } catch (IndexOutOfBoundsException | IllegalArgumentException | IllegalStateException e) {
                return 0;
            }
        });
    }

    RollPunch play() {
        if (calls.size() >= MOST_CALLS) {
            throw new AssertionError("the run leaves no call for a question");
        }
        RollPunch x = new RollPunch();
        for (Made call : calls) {
            call.on(x);
        }
        return x;
    }

    long ask(Made question) {
        return question.on(play());
    }

    private Map<String, Long> answers(Map<String, Made> questions) {
        Map<String, Long> answers = new LinkedHashMap<>();
        RollPunch x = play();
        int left = MOST_CALLS - calls.size();
        for (Map.Entry<String, Made> question : questions.entrySet()) {
            if (left == 0) {
                x = play();
                left = MOST_CALLS - calls.size();
            }
            answers.put(question.getKey(), question.getValue().on(x));
            left--;
        }
        return answers;
    }

    /** All that can be asked for: nothing that a call may have changed is left out. */
    Map<String, Long> picture() {
        Map<String, Made> questions = digested();
        for (int s = 0; s < 96; s++) {
            for (int t = 0; t < 26; t++) {
                addPlace(questions, s, t);
            }
        }
        questions.put("digest()", x -> x.digest());
        questions.put("firstError()", x -> x.firstError());
        questions.put("clearBuffer()", x -> x.clearBuffer());
        return answers(questions);
    }

    private static void addPlace(Map<String, Made> questions, int s, int t) {
        for (int what = 0; what <= 2; what++) {
            int w = what;
            questions.put("place(" + s + ", " + t + ", " + w + ")", x -> x.place(s, t, w));
        }
    }

    /** The values of promise 26, in its order, but for the buffer. */
    Map<String, Long> digestedAnswers() {
        return answers(digested());
    }

    private Map<String, Made> digested() {
        Map<String, Made> all = new LinkedHashMap<>();
        for (int what = 0; what <= 14; what++) {
            int w = what;
            all.put("count(" + w + ")", x -> x.count(w));
        }
        all.put("setting(0)", x -> x.setting(0));
        all.put("setting(1)", x -> x.setting(1));
        for (int i = 0; i < 96 * 7; i++) {
            int s = i / 7;
            int w = i % 7;
            all.put("step(" + s + ", " + w + ")", x -> x.step(s, w));
        }
        for (int i = 0; i < ask(x -> x.count(3)) * 6; i++) {
            int place = i / 6;
            int w = i % 6;
            all.put("played(" + place + ", " + w + ")", x -> x.played(place, w));
        }
        for (int i = 0; i < ask(x -> x.count(4)) * 4; i++) {
            int place = i / 4;
            int w = i % 4;
            all.put("tune(" + place + ", " + w + ")", x -> x.tune(place, w));
        }
        addBest(all);
        return all;
    }

    private static void addBest(Map<String, Made> all) {
        for (int[] span : SPANS) {
            for (int what = 0; what <= 1; what++) {
                int w = what;
                all.put("bestSteer(" + span[0] + ", " + span[1] + ", " + w + ")",
                        x -> x.bestSteer(span[0], span[1], w));
            }
        }
        all.put("bestBridge()", x -> x.bestBridge());
        all.put("bestBreak(1, 0)", x -> x.bestBreak(1, 0));
        all.put("bestBreak(1, 1)", x -> x.bestBreak(1, 1));
        all.put("bestBreak(-1, 0)", x -> x.bestBreak(-1, 0));
        all.put("bestBreak(-1, 1)", x -> x.bestBreak(-1, 1));
        all.put("tuneShare()", x -> Double.doubleToLongBits(x.tuneShare()));
    }
}
