import java.lang.reflect.Constructor;
import java.lang.reflect.Field;
import java.lang.reflect.Member;
import java.lang.reflect.Method;
import java.lang.reflect.Modifier;
import java.util.ArrayList;
import java.util.Arrays;
import java.util.List;
import java.util.Set;
import java.util.TreeSet;

/** The public face is the document's, and there is no other member that others could see. */
public final class FaceTest {
    private static final String OUT = " throws IndexOutOfBoundsException";
    private static final String ARG = " IllegalArgumentException";
    private static final String SUM = " ArithmeticException";
    private static final String ROOM = " IllegalStateException";
    private static final String ALL = OUT + ARG + SUM + ROOM;

    private static final String[] FACE = {
        "int sort()", "int symbol(int int int)", "boolean variable(int int)",
        "boolean draft(long)", "int term() throws" + ARG + SUM + ROOM,
        "int assume(int)" + OUT + ARG + ROOM, "int cut(int int int)" + ALL,
        "int widen(int int)" + OUT + ARG + ROOM, "int meaning(int int)" + ALL,
        "int same(int)" + OUT + SUM + ROOM, "int chain(int int)" + ALL, "int turn(int)" + ALL,
        "int replace(int int)" + ALL, "int linear(int int int int int int)" + ALL,
        "int instance(int int)" + ALL, "int open() throws" + ROOM,
        "int close() throws" + ARG + SUM + ROOM, "int clause(int int)", "int scope(int)",
        "int empty()", "int look(int int)", "int text(int int)"};

    public static void main(String[] args) {
        Class<?> type = ClauseLedger.class;
        Bench.due("class", Modifier.toString(type.getModifiers()), "public final");
        Set<String> face = new TreeSet<>();
        Set<String> names = new TreeSet<>();
        for (Method m : type.getDeclaredMethods()) {
            if (Modifier.isPublic(m.getModifiers())) {
                face.add(described(m));
                names.add(m.getName());
            }
        }
        Bench.due("public methods", face, new TreeSet<>(Arrays.asList(FACE)));
        for (Constructor<?> c : type.getDeclaredConstructors()) {
            Bench.due("constructor", c.toString(), "public ClauseLedger()");
        }
        for (Method m : type.getDeclaredMethods()) {
            if (!Modifier.isPublic(m.getModifiers())) {
                mustBePrivate(m);
                Bench.due("a public " + m.getName(), names.contains(m.getName()), false);
            }
        }
        for (Field f : type.getDeclaredFields()) {
            mustBePrivate(f);
            if (Modifier.isStatic(f.getModifiers())) {
                Bench.due(f + " final", Modifier.isFinal(f.getModifiers()), true);
            }
        }
        for (Class<?> inner : type.getDeclaredClasses()) {
            Bench.due(inner + " static", Modifier.isStatic(inner.getModifiers()), true);
        }
        Bench.end();
    }

    private static void mustBePrivate(Member m) {
        Bench.due(m + " private", Modifier.isPrivate(m.getModifiers()), true);
    }

    private static String described(Method m) {
        StringBuilder s = new StringBuilder(m.getReturnType().getSimpleName());
        s.append(' ').append(m.getName()).append('(').append(names(m.getParameterTypes()));
        s.append(')');
        if (m.getExceptionTypes().length > 0) {
            s.append(" throws ").append(names(m.getExceptionTypes()));
        }
        return s.toString();
    }

    private static String names(Class<?>[] types) {
        List<String> names = new ArrayList<>();
        for (Class<?> type : types) {
            names.add(type.getSimpleName());
        }
        return String.join(" ", names);
    }
}
