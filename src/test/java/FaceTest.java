import java.lang.reflect.Constructor;
import java.lang.reflect.Field;
import java.lang.reflect.Method;
import java.lang.reflect.Modifier;
import java.util.Arrays;
import java.util.Set;
import java.util.TreeSet;

/** The class has the document's face, and nothing beside it that others could see. */
public final class FaceTest {
    private static final String A = "IllegalArgumentException";
    private static final String S = "IllegalStateException";

    public static void main(String[] args) {
        Set<String> due = new TreeSet<>(Arrays.asList(
                "final int NONE",
                "LinkMill()",
                "int put(int, int, int, int, int) " + A + " " + S,
                "int word(int, int) " + A + " " + S,
                "int define(int, int, int, int, boolean) " + A + " " + S,
                "int fix(int, int, int, int, int, int) " + A + " " + S,
                "boolean clear(int) " + A,
                "int link(int, int) " + A,
                "int image(int)",
                "boolean alter(int, int) " + A,
                "int stretch(int) " + A,
                "int read()",
                "int run(int) " + A + " " + S,
                "int value(int)",
                "int register(int)",
                "int memory(int) IndexOutOfBoundsException",
                "int shown(int)",
                "int about(int)",
                "int object(int, int)"));
        Set<String> got = seen();
        if (!got.equals(due) || !Modifier.isFinal(LinkMill.class.getModifiers())) {
            System.out.println("the face is " + got + ", due is " + due);
            System.exit(1);
        }
        System.out.println("the face is as due");
    }

    private static Set<String> seen() {
        Set<String> got = new TreeSet<>();
        for (Field f : LinkMill.class.getDeclaredFields()) {
            if (!Modifier.isPrivate(f.getModifiers())) {
                got.add((Modifier.isFinal(f.getModifiers()) ? "final " : "") + f.getType() + " " + f.getName());
            }
        }
        for (Constructor<?> c : LinkMill.class.getDeclaredConstructors()) {
            got.add("LinkMill" + list(c.getParameterTypes()));
        }
        for (Method m : LinkMill.class.getDeclaredMethods()) {
            if (!Modifier.isPrivate(m.getModifiers())) {
                StringBuilder line = new StringBuilder();
                line.append(m.getReturnType()).append(' ').append(m.getName()).append(list(m.getParameterTypes()));
                for (Class<?> e : m.getExceptionTypes()) {
                    line.append(' ').append(e.getSimpleName());
                }
                got.add(line.toString());
            }
        }
        return got;
    }

    private static String list(Class<?>[] types) {
        StringBuilder line = new StringBuilder("(");
        for (int i = 0; i < types.length; i++) {
            line.append(i == 0 ? "" : ", ").append(types[i]);
        }
        return line.append(')').toString();
    }
}
