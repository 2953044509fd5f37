import java.lang.reflect.Constructor;
import java.lang.reflect.Field;
import java.lang.reflect.Method;
import java.lang.reflect.Modifier;
import java.util.Arrays;
import java.util.TreeSet;

/** The class shows the document's face and nothing else (LANGUAGE.md, rule 1). */
final class FaceTest {
    private static final String A = " throws ArrayIndexOutOfBoundsException";
    private static final String I = " throws IllegalArgumentException";
    private static final String AI = A + ", IllegalArgumentException";
    private static final String[] FACE = {
        "void scale(long, int)" + I, "long fret(int, boolean)" + A, "boolean exact(int)" + A,
        "void just(int, int, int)" + AI, "int justAt(int, int)" + A, "long leaves(int)" + A, "int beside(int)" + A,
        "int nearest(int, int)" + I, "boolean step(int, int)" + I, "void clear()", "long rest(int)" + A,
        "long beat(int, int, int, int)" + AI, "void fan(int, int, int)" + I, "long cross(int, int, int)" + AI,
        "int upright()", "long key(int, long, int)" + AI, "double pull(double, double, double)" + I,
        "double pipe(double, boolean, double)" + I};

    public static void main(String[] args) {
        Check.same("modifiers", Modifier.toString(FretRoots.class.getModifiers()), "public final");
        Check.same("methods", shownMethods().toString(), new TreeSet<>(Arrays.asList(FACE)).toString());
        Check.same("constants", shownFields().toString(), "[public static final int NONE]");
        Constructor<?>[] made = FretRoots.class.getDeclaredConstructors();
        Check.same("constructors", made.length, 1);
        Check.same("constructor", made[0].toString(), "public FretRoots(int)");
        privateNames();
        Check.end("FaceTest");
    }

    private static TreeSet<String> shownMethods() {
        TreeSet<String> shown = new TreeSet<>();
        for (Method m : FretRoots.class.getDeclaredMethods()) {
            if (!Modifier.isPrivate(m.getModifiers())) {
                shown.add(told(m));
            }
        }
        return shown;
    }

    private static String told(Method m) {
        String taken = names(m.getParameterTypes());
        String thrown = m.getExceptionTypes().length == 0 ? "" : " throws " + names(m.getExceptionTypes());
        return m.getReturnType().getSimpleName() + " " + m.getName() + "(" + taken + ")" + thrown;
    }

    private static String names(Class<?>[] types) {
        StringBuilder all = new StringBuilder();
        for (Class<?> type : types) {
            all.append(all.length() == 0 ? "" : ", ").append(type.getSimpleName());
        }
        return all.toString();
    }

    private static TreeSet<String> shownFields() {
        TreeSet<String> shown = new TreeSet<>();
        for (Field f : FretRoots.class.getDeclaredFields()) {
            if (!Modifier.isPrivate(f.getModifiers())) {
                String type = f.getType().getSimpleName();
                shown.add(Modifier.toString(f.getModifiers()) + " " + type + " " + f.getName());
            }
        }
        return shown;
    }

    private static void privateNames() {
        TreeSet<String> open = new TreeSet<>();
        for (String method : FACE) {
            open.add(method.substring(method.indexOf(' ') + 1, method.indexOf('(')));
        }
        for (Class<?> inside : FretRoots.class.getDeclaredClasses()) {
            int shown = inside.getModifiers() & (Modifier.PUBLIC | Modifier.PROTECTED);
            Check.same(inside + " is shown", shown != 0, false);
            privateNamesOf(inside, open);
        }
        privateNamesOf(FretRoots.class, open);
    }

    private static void privateNamesOf(Class<?> type, TreeSet<String> open) {
        for (Method m : type.getDeclaredMethods()) {
            boolean hidden = Modifier.isPrivate(m.getModifiers());
            Check.same(m + " bears a public name", hidden && open.contains(m.getName()), false);
        }
    }
}
