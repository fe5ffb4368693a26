import java.lang.reflect.Constructor;
import java.lang.reflect.Field;
import java.lang.reflect.Method;
import java.lang.reflect.Modifier;
import java.util.Arrays;
import java.util.List;
import java.util.TreeSet;

/** The public face, and the rules of LANGUAGE.md 1, 5, 11 that the compiled class tells. */
public final class FaceTest {
    private static final Checks CHECKS = new Checks();
    private static final String FACE = "public ScoreHandles(); "
        + "public int row(int, int); public int put(int, int, long); "
        + "public long item(int, int); public int size(int); "
        + "public int type(int, int, int, int, int, int); "
        + "public int make(int, int, int, int, long); public int told(int, int); "
        + "public int fits(int); public int give(int, long); public int run(int, boolean); "
        + "public long value(); public int last(int); public int count(int)";
    private static final int CLASSES_MOST = 12;
    private static final int FIELDS_MOST = 20;
    private static final int PARAMETERS_MOST = 7;

    public static void main(String[] args) {
        constants();
        face();
        List<Class<?>> inside = Arrays.asList(ScoreHandles.class.getDeclaredClasses());
        CHECKS.holds("classes in all", inside.size() < CLASSES_MOST);
        inside(ScoreHandles.class);
        for (Class<?> one : inside) {
            CHECKS.holds(one + " is static", Modifier.isStatic(one.getModifiers()));
            CHECKS.holds(one + " is not public", !isOpen(one.getModifiers()));
            CHECKS.due(one + " has no classes inside", one.getDeclaredClasses().length, 0);
            inside(one);
        }
        CHECKS.end("FaceTest");
    }

    private static void constants() {
        CHECKS.due("BAD", ScoreHandles.BAD, -1);
        CHECKS.due("FULL", ScoreHandles.FULL, -2);
        CHECKS.due("MISFIT", ScoreHandles.MISFIT, -3);
        CHECKS.due("WRONG", ScoreHandles.WRONG, -4);
        TreeSet<String> names = new TreeSet<>();
        for (Field field : ScoreHandles.class.getDeclaredFields()) {
            boolean isConstant = Modifier.isFinal(field.getModifiers())
                && Modifier.isStatic(field.getModifiers()) && field.getType() == int.class;
            if (!Modifier.isPrivate(field.getModifiers())) {
                names.add(field.getName() + (isConstant ? "" : " is no constant"));
            }
        }
        CHECKS.holds("constants " + names, names.equals(
            new TreeSet<>(List.of("BAD", "FULL", "MISFIT", "WRONG"))));
    }

    private static boolean isOpen(int modifiers) {
        return Modifier.isPublic(modifiers) || Modifier.isProtected(modifiers);
    }

    private static void face() {
        int modifiers = ScoreHandles.class.getModifiers();
        CHECKS.holds("public final", Modifier.isPublic(modifiers) && Modifier.isFinal(modifiers));
        CHECKS.holds("no other above", ScoreHandles.class.getSuperclass() == Object.class);
        CHECKS.due("interfaces", ScoreHandles.class.getInterfaces().length, 0);
        TreeSet<String> face = new TreeSet<>();
        for (Constructor<?> one : ScoreHandles.class.getDeclaredConstructors()) {
            face.add("public ScoreHandles(" + kinds(one.getParameterTypes()) + ")");
            CHECKS.holds("constructor is public", Modifier.isPublic(one.getModifiers()));
        }
        for (Method one : ScoreHandles.class.getDeclaredMethods()) {
            if (!Modifier.isPrivate(one.getModifiers()) && !one.isSynthetic()) {
                face.add(Modifier.toString(one.getModifiers()) + " " + one.getReturnType() + " "
                    + one.getName() + "(" + kinds(one.getParameterTypes()) + ")");
            }
        }
        TreeSet<String> due = new TreeSet<>(Arrays.asList(FACE.split("; ")));
        CHECKS.holds("face " + face, face.equals(due));
    }

    private static String kinds(Class<?>[] types) {
        StringBuilder all = new StringBuilder();
        for (Class<?> type : types) {
            all.append(all.length() == 0 ? "" : ", ").append(type.getName());
        }
        return all.toString();
    }

    /** What no class of the file may have. */
    private static void inside(Class<?> one) {
        int fields = 0;
        for (Field field : one.getDeclaredFields()) {
            int modifiers = field.getModifiers();
            if (!Modifier.isStatic(modifiers)) {
                fields++;
            } else {
                CHECKS.holds(field + " is final", Modifier.isFinal(modifiers));
                CHECKS.holds(field + " is of a plain kind", field.isSynthetic()
                    || field.isEnumConstant() || field.getType().isPrimitive());
            }
        }
        CHECKS.holds(one + " has few fields", fields <= FIELDS_MOST);
        for (Method method : one.getDeclaredMethods()) {
            CHECKS.holds(method + " has few parameters",
                method.getParameterCount() <= PARAMETERS_MOST);
            boolean isOfFace = one == ScoreHandles.class
                && Modifier.isPublic(method.getModifiers());
            CHECKS.holds(method + " has a name of its own", isOfFace || !isName(method.getName()));
        }
    }

    private static boolean isName(String name) {
        return FACE.contains(" " + name + "(");
    }
}
