import java.lang.reflect.Constructor;
import java.lang.reflect.Field;
import java.lang.reflect.Method;
import java.lang.reflect.Modifier;
import java.util.Arrays;
import java.util.Set;
import java.util.TreeSet;

/** The public face of the document, and rules 1, 5, 11 of LANGUAGE.md as far as the class file tells. */
public final class FaceTest {
    private static final Check check = new Check();
    private static final String A = " IllegalArgumentException";
    private static final String S = " IllegalStateException";
    private static final String E = " NoSuchElementException";
    private static final String B = " IndexOutOfBoundsException";
    private static final String[] FACE = {
        "int type(int, int, int, int, int)" + A + S, "int size(int)" + A, "int draft(int, int)" + A + S,
        "int range(int, int, int)" + S, "int define()" + S + A, "int fault()", "void exclude(int)" + A + S,
        "int weave(int)" + A + S, "int length(int, boolean)" + A, "int code(int, int, int)" + A + B,
        "int site(int, int)" + A + E, "void start(int, int, int)" + A + S, "int run(int)" + A, "int state(int)" + A,
        "int result(int)" + A + E, "int object(int)" + A, "long count(int, int, int)" + A + E,
        "int entry(int, int)" + A + B, "float rate(int)" + A, "float share(int)" + A, "double estimate(int)" + A,
        "long rounded(int)" + A};

    public static void main(String[] args) {
        Class<?> face = AllocationProfiler.class;
        check.same("public and final", face.getModifiers() & (Modifier.PUBLIC | Modifier.FINAL),
                Modifier.PUBLIC | Modifier.FINAL);
        check.same("no package", face.getPackageName(), "");
        constructors(face);
        methods(face);
        fields(face);
        for (Class<?> inside : face.getDeclaredClasses()) {
            check.same(inside + " is static", Modifier.isStatic(inside.getModifiers()) ? 1 : 0, 1);
            check.same(inside + " is not public", inside.getModifiers() & (Modifier.PUBLIC | Modifier.PROTECTED), 0);
            fields(inside);
        }
        check.same("at most twelve classes", face.getDeclaredClasses().length < 12 ? 1 : 0, 1);
        check.finish();
    }

    private static void constructors(Class<?> face) {
        Constructor<?>[] all = face.getDeclaredConstructors();
        check.same("constructors", all.length, 1);
        check.same("its parameters", all[0].getParameterCount(), 0);
        check.same("it is public", all[0].getModifiers(), Modifier.PUBLIC);
    }

    private static void methods(Class<?> face) {
        Set<String> open = new TreeSet<>();
        Set<String> openNames = new TreeSet<>();
        Set<String> hiddenNames = new TreeSet<>();
        for (Method m : face.getDeclaredMethods()) {
            if (m.isSynthetic()) {
                continue;
            }
            if (Modifier.isPrivate(m.getModifiers())) {
                hiddenNames.add(m.getName());
            } else {
                open.add(Modifier.toString(m.getModifiers()) + " " + signature(m));
                openNames.add(m.getName());
            }
        }
        Set<String> due = new TreeSet<>();
        for (String row : FACE) {
            due.add("public " + row);
        }
        check.same("the face", open.toString(), due.toString());
        hiddenNames.retainAll(openNames);
        check.same("private methods with names of public ones", hiddenNames.toString(), "[]");
    }

    private static String signature(Method m) {
        String types = Arrays.toString(m.getParameterTypes());
        StringBuilder text = new StringBuilder(m.getReturnType() + " " + m.getName());
        text.append('(').append(types, 1, types.length() - 1).append(')');
        for (Class<?> e : m.getExceptionTypes()) {
            text.append(' ').append(e.getSimpleName());
        }
        return text.toString();
    }

    private static void fields(Class<?> owner) {
        int own = 0;
        for (Field f : owner.getDeclaredFields()) {
            boolean isStatic = Modifier.isStatic(f.getModifiers());
            own += isStatic ? 0 : 1;
            // The document has no constants; classes inside may let one another see their fields.
            boolean mayBeSeen = owner != AllocationProfiler.class;
            check.same(f + " is private", mayBeSeen || Modifier.isPrivate(f.getModifiers()) ? 1 : 0, 1);
            check.same(f + " is final if static", !isStatic || Modifier.isFinal(f.getModifiers()) ? 1 : 0, 1);
        }
        check.same(owner + " has some twenty fields at most", own <= 20 ? 1 : 0, 1);
    }
}
