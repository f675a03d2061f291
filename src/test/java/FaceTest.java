import java.lang.reflect.Constructor;
import java.lang.reflect.Field;
import java.lang.reflect.Method;
import java.lang.reflect.Modifier;
import java.util.Arrays;
import java.util.Set;
import java.util.TreeSet;

/** The public face is the document's, and nothing else of the class can be reached from outside it. */
public final class FaceTest {
    private static final String IAE = " throws IllegalArgumentException";
    private static final String BOTH = IAE + ", IllegalStateException";

    public static void main(String[] args) {
        Class<?> face = ChangeStream.class;
        Due.answer("modifiers", face.getModifiers(), Modifier.PUBLIC | Modifier.FINAL);
        Due.text("superclass", face.getSuperclass().getName(), "java.lang.Object");
        Due.answer("interfaces", face.getInterfaces().length, 0);
        Due.answer("type parameters", face.getTypeParameters().length, 0);
        Due.text("NONE", nameOf(-1), "NONE");
        Due.text("WAIT", nameOf(-2), "WAIT");
        Due.text("GAP", nameOf(-3), "GAP");
        Due.text("constructors", constructors(face).toString(), "[public ()]");
        Due.text("fields", openFields(face).toString(),
            "[public static final int GAP, public static final int NONE, public static final int WAIT]");
        Due.text("methods", openMethods(face).toString(), dueMethods().toString());
        privateNamesDiffer(face);
        classesInsideAreStatic(face);
        Due.end();
    }

    /** A switch, which takes no field but a constant that the compiler knows. */
    private static String nameOf(int answer) {
        switch (answer) {
            case ChangeStream.NONE: return "NONE";
            case ChangeStream.WAIT: return "WAIT";
            case ChangeStream.GAP: return "GAP";
            default: return "a number";
        }
    }

    private static Set<String> dueMethods() {
        return new TreeSet<>(Arrays.asList(
            "int fact(int, int)" + BOTH,
            "int change(int, boolean)" + BOTH,
            "int commit()",
            "int abort()",
            "boolean contains(int)" + IAE,
            "int keep(int)" + IAE,
            "int reader(int, int, int)" + BOTH,
            "void filter(int, int, int)" + IAE,
            "int throttle(int, int)" + IAE,
            "void right(int, int, boolean)" + BOTH,
            "int next(int)" + IAE,
            "int done(int, int)" + IAE,
            "int resume(int)" + IAE,
            "int row(int, int)" + IAE,
            "int about(int, int)" + IAE,
            "int told(int)" + IAE));
    }

    private static Set<String> constructors(Class<?> face) {
        Set<String> found = new TreeSet<>();
        for (Constructor<?> made : face.getDeclaredConstructors()) {
            found.add(Modifier.toString(made.getModifiers()) + " (" + names(made.getParameterTypes()) + ")");
        }
        return found;
    }

    private static Set<String> openFields(Class<?> face) {
        Set<String> found = new TreeSet<>();
        for (Field field : face.getDeclaredFields()) {
            if (!Modifier.isPrivate(field.getModifiers())) {
                found.add(Modifier.toString(field.getModifiers()) + " " + field.getType() + " " + field.getName());
            }
        }
        return found;
    }

    private static Set<String> openMethods(Class<?> face) {
        Set<String> found = new TreeSet<>();
        for (Method method : face.getDeclaredMethods()) {
            if (!Modifier.isPrivate(method.getModifiers())) {
                String thrown = names(method.getExceptionTypes());
                found.add(method.getReturnType() + " " + method.getName() + "(" + names(method.getParameterTypes())
                    + ")" + (thrown.isEmpty() ? "" : " throws " + thrown));
            }
        }
        return found;
    }

    private static void privateNamesDiffer(Class<?> face) {
        Set<String> open = new TreeSet<>();
        for (Method method : face.getMethods()) {
            open.add(method.getName());
        }
        for (Method method : face.getDeclaredMethods()) {
            if (Modifier.isPrivate(method.getModifiers())) {
                Due.answer("a public method named " + method.getName(), open.contains(method.getName()), false);
            }
        }
    }

    private static void classesInsideAreStatic(Class<?> face) {
        for (Class<?> inside : face.getDeclaredClasses()) {
            int modifiers = inside.getModifiers();
            Due.answer(inside + " static", Modifier.isStatic(modifiers), true);
            Due.answer(inside + " open", Modifier.isPublic(modifiers) || Modifier.isProtected(modifiers), false);
        }
    }

    private static String names(Class<?>[] types) {
        StringBuilder text = new StringBuilder();
        for (Class<?> type : types) {
            text.append(text.length() == 0 ? "" : ", ").append(type.getSimpleName());
        }
        return text.toString();
    }
}
