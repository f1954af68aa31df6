import java.lang.reflect.Constructor;
import java.lang.reflect.Field;
import java.lang.reflect.Method;
import java.lang.reflect.Modifier;
import java.util.Set;
import java.util.TreeSet;

/** The public face is the document's, and nothing else can be seen from outside. */
public final class FaceTest {
    private static final String OUTSIDE = " throws IndexOutOfBoundsException";
    private static final String[] FACE = {
        "int lock(int) throws IllegalArgumentException IllegalStateException",
        "int turn(int int int)" + OUTSIDE + " IllegalArgumentException",
        "boolean open(int)" + OUTSIDE,
        "int shut(int)" + OUTSIDE + " IllegalStateException",
        "int rename(int int)" + OUTSIDE + " IllegalArgumentException IllegalStateException",
        "boolean lose(int boolean)" + OUTSIDE,
        "int setPlaces(int int)" + OUTSIDE + " IllegalArgumentException IllegalStateException",
        "int setHours(int int int)" + OUTSIDE + " IllegalArgumentException",
        "int put(int int)" + OUTSIDE + " IllegalStateException",
        "int told(int int)" + OUTSIDE,
        "int wear(int int int)" + OUTSIDE,
        "int rack(int int)" + OUTSIDE,
        "int count(int)" + OUTSIDE,
        "int apart(int int) throws IllegalArgumentException",
        "int trial(int int)" + OUTSIDE + " IllegalArgumentException",
        "int safe(int)" + OUTSIDE,
        "int pass(int) throws IllegalArgumentException",
        "int foresee(int int) throws IllegalArgumentException IndexOutOfBoundsException",
        "int until(int)" + OUTSIDE,
        "int weakest()",
        "double mean()",
        "long digest()",
    };

    public static void main(String[] args) {
        Class<LetterLocks> face = LetterLocks.class;
        Check.due("public final", Modifier.PUBLIC | Modifier.FINAL, face.getModifiers());
        Check.due("methods", new TreeSet<>(Set.of(FACE)), publicMethods(face));
        Check.due("constructors", 1, face.getDeclaredConstructors().length);
        Constructor<?> made = face.getDeclaredConstructors()[0];
        Check.due("the constructor", "public LetterLocks()", made.toString());
        hiddenMembers(face);
        insideClasses(face);
        Check.done();
    }

    private static Set<String> publicMethods(Class<?> face) {
        Set<String> found = new TreeSet<>();
        for (Method method : face.getDeclaredMethods()) {
            if (Modifier.isPublic(method.getModifiers())) {
                found.add(faceOf(method));
            }
        }
        return found;
    }

    private static String faceOf(Method method) {
        String thrown = names(method.getExceptionTypes());
        return method.getReturnType().getSimpleName() + " " + method.getName() + "("
            + names(method.getParameterTypes()) + ")" + (thrown.isEmpty() ? "" : " throws " + thrown);
    }

    private static String names(Class<?>[] types) {
        StringBuilder all = new StringBuilder();
        for (Class<?> type : types) {
            all.append(all.length() == 0 ? "" : " ").append(type.getSimpleName());
        }
        return all.toString();
    }

    private static void hiddenMembers(Class<?> face) {
        Set<String> publicNames = new TreeSet<>();
        for (Method method : face.getDeclaredMethods()) {
            if (Modifier.isPublic(method.getModifiers())) {
                publicNames.add(method.getName());
            }
        }
        for (Method method : face.getDeclaredMethods()) {
            int modifiers = method.getModifiers();
            if (!Modifier.isPublic(modifiers)) {
                Check.due(method + " is private", true, Modifier.isPrivate(modifiers));
                Check.due(method + " has a public one's name", false, publicNames.contains(method.getName()));
            }
        }
        for (Field field : face.getDeclaredFields()) {
            Check.due(field + " is private", true, Modifier.isPrivate(field.getModifiers()));
            noStaticState(field);
        }
        for (Class<?> inside : face.getDeclaredClasses()) {
            for (Method method : inside.getDeclaredMethods()) {
                Check.due(method + " has a public one's name", false, publicNames.contains(method.getName()));
            }
        }
    }

    private static void insideClasses(Class<?> face) {
        for (Class<?> inside : face.getDeclaredClasses()) {
            int modifiers = inside.getModifiers();
            Check.due(inside + " is static", true, Modifier.isStatic(modifiers));
            Check.due(inside + " is hidden", false, Modifier.isPublic(modifiers) || Modifier.isProtected(modifiers));
            for (Field field : inside.getDeclaredFields()) {
                noStaticState(field);
            }
        }
    }

    private static void noStaticState(Field field) {
        int modifiers = field.getModifiers();
        Check.due(field + " is no static state", true, !Modifier.isStatic(modifiers) || Modifier.isFinal(modifiers));
    }
}
