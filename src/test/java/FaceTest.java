import java.lang.reflect.Constructor;
import java.lang.reflect.Field;
import java.lang.reflect.Method;
import java.lang.reflect.Modifier;
import java.util.Arrays;
import java.util.HashSet;
import java.util.Set;
import java.util.TreeSet;

/** The public face as the document lists it, and that there is nothing beside it. */
public final class FaceTest {
    private static final Due DUE = new Due("FaceTest");
    private static final String[] FACE = {
        "int append(int) throws IllegalArgumentException, IllegalStateException",
        "int bestBreak(int, int) throws IllegalArgumentException",
        "int bestBridge()",
        "int bestSteer(int, int, int) throws IndexOutOfBoundsException, IllegalArgumentException",
        "int clearBuffer()",
        "int count(int) throws IllegalArgumentException",
        "long digest()",
        "int firstError()",
        "int holesFor(int) throws IllegalArgumentException",
        "int learn()",
        "int patch(int, int, int) throws IndexOutOfBoundsException, IllegalArgumentException",
        "int peel(int, int, int) throws IndexOutOfBoundsException, IllegalArgumentException",
        "int place(int, int, int) throws IndexOutOfBoundsException, IllegalArgumentException",
        "int played(int, int) throws IndexOutOfBoundsException, IllegalArgumentException",
        "int punch(int, int, int) throws IndexOutOfBoundsException, IllegalArgumentException, IllegalStateException",
        "int punchAll() throws IllegalArgumentException, IllegalStateException",
        "int set(int, int) throws IndexOutOfBoundsException, IllegalArgumentException",
        "int setting(int) throws IndexOutOfBoundsException",
        "int shift(int) throws IllegalArgumentException, IllegalStateException",
        "int steer(int, int, int) throws IndexOutOfBoundsException, IllegalArgumentException",
        "int step(int, int) throws IndexOutOfBoundsException, IllegalArgumentException",
        "int tear(int, int, int) throws IndexOutOfBoundsException, IllegalArgumentException, IllegalStateException",
        "int tune(int, int) throws IndexOutOfBoundsException, IllegalArgumentException",
        "double tuneShare()",
        "int undo() throws IllegalStateException"};

    private static String names(Class<?>[] kinds) {
        StringBuilder row = new StringBuilder();
        for (Class<?> kind : kinds) {
            row.append(row.length() > 0 ? ", " : "").append(kind.getSimpleName());
        }
        return row.toString();
    }

    private static String written(Method m) {
        String thrown = names(m.getExceptionTypes());
        return m.getReturnType() + " " + m.getName() + "(" + names(m.getParameterTypes()) + ")"
                + (thrown.isEmpty() ? "" : " throws " + thrown);
    }

    private static void methods() {
        Set<String> open = new TreeSet<>();
        Set<String> faceNames = new HashSet<>();
        for (Method m : RollPunch.class.getDeclaredMethods()) {
            if (Modifier.isPrivate(m.getModifiers())) {
                continue;
            }
            DUE.is(m.getName() + " is public, not static", m.getModifiers(), Modifier.PUBLIC);
            open.add(written(m));
            faceNames.add(m.getName());
        }
        DUE.is("the face", open.toString(), new TreeSet<>(Arrays.asList(FACE)).toString());
        for (Method m : RollPunch.class.getDeclaredMethods()) {
            if (Modifier.isPrivate(m.getModifiers()) && faceNames.contains(m.getName())) {
                DUE.wrong("a private method bears the name " + m.getName());
            }
        }
    }

    private static void fields() {
        for (Field f : RollPunch.class.getDeclaredFields()) {
            boolean isConstant = f.getName().equals("NONE");
            int due = Modifier.PUBLIC | Modifier.STATIC | Modifier.FINAL;
            if (isConstant) {
                DUE.is("NONE is public, static, final", f.getModifiers(), due);
            } else if (!Modifier.isPrivate(f.getModifiers())) {
                DUE.wrong("the field " + f.getName() + " is not private");
            }
        }
    }

    private static void classes() {
        DUE.is("public and final", RollPunch.class.getModifiers(), Modifier.PUBLIC | Modifier.FINAL);
        Constructor<?>[] made = RollPunch.class.getDeclaredConstructors();
        DUE.is("constructors", made.length, 1);
        DUE.is("its arguments", made[0].getParameterCount(), 0);
        DUE.is("it is public", made[0].getModifiers(), Modifier.PUBLIC);
        for (Class<?> inside : RollPunch.class.getDeclaredClasses()) {
            int open = inside.getModifiers() & (Modifier.PUBLIC | Modifier.PROTECTED);
            DUE.is(inside.getName() + " is not open", open, 0);
            if (!Modifier.isStatic(inside.getModifiers())) {
                DUE.wrong(inside.getName() + " is not static");
            }
            for (Field f : inside.getDeclaredFields()) {
                if (Modifier.isStatic(f.getModifiers()) && !Modifier.isFinal(f.getModifiers())) {
                    DUE.wrong(inside.getName() + "." + f.getName() + " is static and not final");
                }
            }
        }
    }

    public static void main(String[] args) {
        methods();
        fields();
        classes();
        DUE.end();
    }
}
