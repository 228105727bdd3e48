import java.io.IOException;
import java.lang.reflect.Field;
import java.lang.reflect.Method;
import java.lang.reflect.Modifier;
import java.nio.charset.StandardCharsets;
import java.nio.file.Files;
import java.nio.file.Path;
import java.util.ArrayList;
import java.util.List;
import java.util.regex.Matcher;
import java.util.regex.Pattern;

/** Those rules of LANGUAGE.md that can be seen without understanding the program. */
public final class LanguageTest {
    private static final Due DUE = new Due("LanguageTest");
    private static final Path SOURCE = Path.of("src/main/java/RollPunch.java");
    private static final String[] FORBIDDEN = {"\\bimport\\b", "\\bpackage\\b", "->", "::", "\\bfinally\\b",
        "\\bsynchronized\\b", "\\bassert\\b", "\\bvar\\b", "\\bcatch\\b", "Exact\\(", "\\bnative\\b", "\\bDouble\\b",
        "\\bFloat\\b", "\\bObject\\b", "\\bRandom\\b", "\\bThread\\b", "\\bSystem\\.(?!arraycopy\\()", "\\bstatic \\{",
        "\\bequals\\(", "\\bhashCode\\(", "\\btoString\\("};
    private static final Pattern METHOD = Pattern.compile(
            "^    (?:    )?(?:(?:public|private|static|final) )*(?:int|long|double|boolean|void) \\w+\\(.*");
    private static final Pattern THROWN = Pattern.compile("throw new (\\w+)\\(\"[^\"]*\"\\);");

    private static String withoutComments(String text) {
        return text.replaceAll("/\\*(?s:.*?)\\*/", "").replaceAll("//[^\\n]*", "");
    }

    private static void words(String text) {
        String code = withoutComments(text);
        for (String word : FORBIDDEN) {
            Matcher found = Pattern.compile(word).matcher(code);
            if (found.find()) {
                DUE.wrong("the program holds " + found.group());
            }
        }
        for (char sign : text.toCharArray()) {
            if (sign > 126 || sign < 32 && sign != '\n') {
                DUE.wrong("a sign of the number " + (int) sign);
            }
        }
    }

    // Each throw is one of the document's three exceptions, made where it is thrown.
    private static void exceptions(String text) {
        String code = withoutComments(text);
        Matcher thrown = THROWN.matcher(code);
        int throwsSeen = 0;
        while (thrown.find()) {
            throwsSeen++;
            String kind = thrown.group(1);
            if (!kind.equals("IndexOutOfBoundsException") && !kind.equals("IllegalArgumentException")
                    && !kind.equals("IllegalStateException")) {
                DUE.wrong("it throws " + kind);
            }
        }
        DUE.is("throw statements", code.split("\\bthrow\\b", -1).length - 1, throwsSeen);
    }

    private static void methodLengths(List<String> lines) {
        for (int i = 0; i < lines.size(); i++) {
            if (METHOD.matcher(lines.get(i)).matches() && !lines.get(i).endsWith(";")) {
                int end = i;
                String close = lines.get(i).replaceAll("\\S.*", "") + "}";
                while (end < lines.size() && !lines.get(end).equals(close)) {
                    end++;
                }
                if (end - i + 1 > 60) {
                    DUE.wrong("a method of " + (end - i + 1) + " lines: " + lines.get(i).trim());
                }
            }
        }
    }

    private static void sizes() {
        List<Class<?>> all = new ArrayList<>(List.of(RollPunch.class.getDeclaredClasses()));
        all.add(RollPunch.class);
        if (all.size() > 12) {
            DUE.wrong(all.size() + " classes");
        }
        for (Class<?> kind : all) {
            int fields = 0;
            for (Field f : kind.getDeclaredFields()) {
                fields += Modifier.isStatic(f.getModifiers()) ? 0 : 1;
            }
            if (fields > 20) {
                DUE.wrong(fields + " fields in " + kind.getName());
            }
            for (Method m : kind.getDeclaredMethods()) {
                if (m.getParameterCount() > 7) {
                    DUE.wrong(m.getName() + " takes too many parameters");
                }
            }
        }
    }

    public static void main(String[] args) throws IOException {
        String text = Files.readString(SOURCE, StandardCharsets.ISO_8859_1);
        words(text);
        exceptions(text);
        methodLengths(List.of(text.split("\n")));
        sizes();
        DUE.end();
    }
}
