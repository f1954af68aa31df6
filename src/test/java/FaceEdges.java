import java.io.IOException;
import java.io.UncheckedIOException;
import java.lang.reflect.Constructor;
import java.lang.reflect.Field;
import java.lang.reflect.Member;
import java.lang.reflect.Method;
import java.lang.reflect.Modifier;
import java.nio.charset.StandardCharsets;
import java.nio.file.Files;
import java.nio.file.Path;
import java.util.ArrayList;
import java.util.List;
import java.util.Set;
import java.util.TreeSet;

/** The public face is the document's, call by call, and nothing else can be seen from outside. */
final class FaceEdges {
    private static final Path PROGRAM = Path.of("src/main/java/LetterLocks.java");
    private static final String HEAD = "    // ---- ";
    private static final String PUBLIC = "    public ";
    private static final int PROMISES = 23;

    private FaceEdges() {
    }

    static void run() {
        theFace();
        promisedOneByOne();
        writtenAsNamed();
        underTheirHeads();
        hiddenMembers();
        insideClasses();
    }

    /** The calls as the document declares them, the constructor's first. */
    private static List<String> declared() {
        List<String> found = new ArrayList<>();
        for (String line : Doc.section("The public face").split("\n")) {
            if (line.startsWith(PUBLIC)) {
                found.add(line.substring(PUBLIC.length()).replace(";", ""));
            }
        }
        return found;
    }

    private static void theFace() {
        Doc.says("The public face", "```java\npublic final class LetterLocks {");
        Class<LetterLocks> face = LetterLocks.class;
        Check.due("public final", Modifier.PUBLIC | Modifier.FINAL, face.getModifiers());
        Check.due("constructors", 1, face.getDeclaredConstructors().length);
        Constructor<?> made = face.getDeclaredConstructors()[0];
        Check.due("the constructor", "public LetterLocks()", made.toString());
        Set<String> calls = new TreeSet<>();
        for (String call : declared()) {
            calls.add(call.replaceAll("(int|boolean) \\w+([,)])", "$1$2"));
        }
        calls.remove("LetterLocks()");
        Check.due("calls", calls, publicMethods(face));
    }

    private static Set<String> publicMethods(Class<?> face) {
        Set<String> found = new TreeSet<>();
        for (Method method : face.getDeclaredMethods()) {
            if (Modifier.isPublic(method.getModifiers())) {
                String thrown = names(method.getExceptionTypes());
                found.add(method.getReturnType().getSimpleName() + " " + method.getName() + "("
                    + names(method.getParameterTypes()) + ")" + (thrown.isEmpty() ? "" : " throws " + thrown));
            }
        }
        return found;
    }

    private static String names(Class<?>[] types) {
        List<String> all = new ArrayList<>();
        for (Class<?> type : types) {
            all.add(type.getSimpleName());
        }
        return String.join(", ", all);
    }

    private static void promisedOneByOne() {
        List<String> calls = declared();
        Check.under("The public face");
        Check.due("calls with the constructor", PROMISES, calls.size());
        for (int promise = 1; promise <= calls.size(); promise++) {
            Doc.says(promise, "`" + calls.get(promise - 1) + "`: ");
        }
    }

    private static void writtenAsNamed() {
        List<String> written = new ArrayList<>();
        for (String line : program()) {
            if (line.startsWith(PUBLIC)) {
                written.add(line.substring(PUBLIC.length()).replace(" {", ""));
            }
        }
        List<String> calls = declared();
        for (int call = 0; call < calls.size(); call++) {
            Doc.says("The public face", PUBLIC + calls.get(call) + ";");
            Check.due("is written so, in its order", calls.get(call), call < written.size() ? written.get(call) : "");
        }
        Check.due("and no more", calls.size(), written.size());
    }

    private static void underTheirHeads() {
        String[] heads = {
            "Ahead of the calls `lock`, `turn`, `open`, `shut`, `rename`, `lose` the interface says: ---- locks.",
            "Ahead of the calls `setPlaces`, `setHours`, `put` the interface says: ---- racks.",
            "Ahead of the calls `told`, `wear`, `rack`, `count` the interface says: ---- what there is.",
            "Ahead of the calls `apart`, `trial`, `safe` the interface says: ---- words and trials.",
            "Ahead of the calls `pass`, `foresee`, `until`, `weakest`, `mean`, `digest` "
                + "the interface says: ---- hours and what would be.",
        };
        for (String sentence : heads) {
            Doc.says("Terms", sentence);
            String head = sentence.replaceAll(".*---- (.*)\\.", "$1");
            String calls = sentence.replaceAll("Ahead of the calls (.*) the interface.*", "$1").replace("`", "");
            Check.due("the calls under it", calls, String.join(", ", callsUnder(head)));
        }
    }

    private static List<String> callsUnder(String head) {
        List<String> found = new ArrayList<>();
        String under = "";
        for (String line : program()) {
            if (line.startsWith(HEAD)) {
                under = line.substring(HEAD.length());
            } else if (line.startsWith(PUBLIC) && under.equals(head)) {
                found.add(line.replaceAll(".* (\\w+)\\(.*", "$1"));
            }
        }
        return found;
    }

    private static List<String> program() {
        try {
            return Files.readAllLines(PROGRAM, StandardCharsets.UTF_8);
        } catch (IOException e) {
            throw new UncheckedIOException(e);
        }
    }

    private static void hiddenMembers() {
        Check.under("LANGUAGE.md, rules 1 and 5");
        Class<LetterLocks> face = LetterLocks.class;
        for (Method method : face.getDeclaredMethods()) {
            if (!Modifier.isPublic(method.getModifiers())) {
                isPrivate(method);
                bearsNoPublicName(method);
            }
        }
        for (Field field : face.getDeclaredFields()) {
            isPrivate(field);
            isNoStaticState(field);
        }
    }

    private static void insideClasses() {
        Check.under("LANGUAGE.md, rules 1 and 5");
        for (Class<?> inside : LetterLocks.class.getDeclaredClasses()) {
            int modifiers = inside.getModifiers();
            Check.due(inside + " is static", true, Modifier.isStatic(modifiers));
            Check.due(inside + " is hidden", false, Modifier.isPublic(modifiers) || Modifier.isProtected(modifiers));
            for (Method method : inside.getDeclaredMethods()) {
                bearsNoPublicName(method);
            }
            for (Field field : inside.getDeclaredFields()) {
                isNoStaticState(field);
            }
        }
    }

    private static void bearsNoPublicName(Method hidden) {
        for (Method method : LetterLocks.class.getMethods()) {
            Check.due(hidden + " has the name of " + method.getName(), false, hidden.getName().equals(method.getName()));
        }
    }

    private static void isPrivate(Member member) {
        Check.due(member + " is private", true, Modifier.isPrivate(member.getModifiers()));
    }

    private static void isNoStaticState(Field field) {
        int modifiers = field.getModifiers();
        Check.due(field + " is no static state", true, !Modifier.isStatic(modifiers) || Modifier.isFinal(modifiers));
    }
}
