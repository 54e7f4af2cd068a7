import java.lang.reflect.Constructor;
import java.lang.reflect.Field;
import java.lang.reflect.Method;
import java.lang.reflect.Modifier;
import java.util.Arrays;
import java.util.Set;
import java.util.TreeSet;

/** The public face is the document's, with nothing added and nothing missing. */
public final class FaceTest {
    private static final Set<String> FACE = new TreeSet<>(Arrays.asList(
            "BAD_ARG = -1", "FULL = -2", "TOO_FEW = -3", "DONE = 0", "TIRED = 1",
            "new()",
            "int constant(int)", "int argument(int)", "int two(int)", "int choose()",
            "int define(int)", "void discard()", "int depth()",
            "int run(int, int, int)", "int ending(int, int, int)", "int calls(int, int, int)",
            "int callsOf(int, int, int, int)", "int sumOver(int, int, int, int)",
            "int solve(int, int, int)"));

    public static void main(String[] args) throws IllegalAccessException {
        Set<String> found = new TreeSet<>();
        for (Field field : FixedArguments.class.getDeclaredFields()) {
            if (!Modifier.isPrivate(field.getModifiers())) {
                found.add(field.getName() + " = " + field.get(null));
            }
        }
        for (Constructor<?> made : FixedArguments.class.getDeclaredConstructors()) {
            found.add("new(" + types(made.getParameterTypes()) + ")");
        }
        for (Method method : FixedArguments.class.getDeclaredMethods()) {
            if (!Modifier.isPrivate(method.getModifiers())) {
                found.add(method.getReturnType() + " " + method.getName()
                        + "(" + types(method.getParameterTypes()) + ")");
            }
        }
        if (!found.equals(FACE)) {
            System.out.println("the face is " + found + ", due is " + FACE);
            System.exit(1);
        }
        System.out.println("the face is as due");
    }

    private static String types(Class<?>[] types) {
        StringBuilder text = new StringBuilder();
        for (Class<?> type : types) {
            text.append(text.length() == 0 ? "" : ", ").append(type);
        }
        return text.toString();
    }
}
