import java.io.IOException;
import java.lang.reflect.InvocationTargetException;
import java.lang.reflect.Method;
import java.lang.reflect.Modifier;
import java.nio.charset.StandardCharsets;
import java.nio.file.Files;
import java.nio.file.Path;
import java.util.HashSet;
import java.util.Set;
import java.util.regex.Matcher;
import java.util.regex.Pattern;

/** The run of calls in README.md, with the answers that are written behind them. */
public final class ReadmeTest {
    private static final Due DUE = new Due("ReadmeTest");
    private static final Path README = Path.of("README.md");
    private static final Pattern BLOCK = Pattern.compile("```java\n(.*?)```", Pattern.DOTALL);
    private static final Pattern LINE = Pattern.compile("((?:roll\\.\\w+\\([^)]*\\); *)+)// ([^: ]+): .+");
    private static final Pattern CALL = Pattern.compile("roll\\.(\\w+)\\(([^)]*)\\);");

    private static Object number(String written) {
        if (written.equals("RollPunch.NONE")) {
            return RollPunch.NONE;
        }
        return written.startsWith("'") ? written.charAt(1) : Integer.parseInt(written);
    }

    private static Method methodOf(String name) {
        for (Method m : RollPunch.class.getDeclaredMethods()) {
            if (m.getName().equals(name) && Modifier.isPublic(m.getModifiers())) {
                return m;
            }
        }
        throw new AssertionError("README.md has a call of " + name);
    }

    private static String outcome(RollPunch roll, String name, String written) {
        String[] parts = written.isEmpty() ? new String[0] : written.split(", ");
        Object[] arguments = new Object[parts.length];
        for (int i = 0; i < parts.length; i++) {
            Object number = number(parts[i]);
            arguments[i] = number instanceof Character ? (int) (Character) number : number;
        }
        try {
            return "" + methodOf(name).invoke(roll, arguments);
        } catch (InvocationTargetException e) {
            return e.getCause().getClass().getSimpleName();
        } catch (IllegalAccessException e) {
            throw new AssertionError(e);
        }
    }

    private static void line(RollPunch roll, String line, Set<String> called) {
        Matcher parts = LINE.matcher(line);
        if (!parts.matches()) {
            DUE.wrong("no call with an answer: " + line);
            return;
        }
        Matcher call = CALL.matcher(parts.group(1));
        String got = "";
        while (call.find()) {
            called.add(call.group(1));
            got = outcome(roll, call.group(1), call.group(2));
        }
        DUE.is(parts.group(1).trim(), got, parts.group(2));
    }

    private static void run(String block) {
        String[] lines = block.split("\n");
        DUE.is("the first line", lines[0], "RollPunch roll = new RollPunch();");
        RollPunch roll = new RollPunch();
        Set<String> called = new HashSet<>();
        for (int i = 1; i < lines.length; i++) {
            if (!lines[i].startsWith("//")) {
                line(roll, lines[i], called);
            }
        }
        for (Method m : RollPunch.class.getDeclaredMethods()) {
            if (Modifier.isPublic(m.getModifiers()) && !called.contains(m.getName())) {
                DUE.wrong("README.md has no call of " + m.getName());
            }
        }
    }

    public static void main(String[] args) throws IOException {
        Matcher block = BLOCK.matcher(Files.readString(README, StandardCharsets.UTF_8));
        if (block.find()) {
            run(block.group(1));
        } else {
            DUE.wrong("README.md has no run of calls");
        }
        DUE.end();
    }
}
