import java.io.IOException;
import java.net.URL;
import java.net.URLClassLoader;
import java.nio.charset.StandardCharsets;
import java.nio.file.Files;
import java.nio.file.Path;
import java.util.ArrayList;
import java.util.List;
import java.util.Set;
import java.util.TreeSet;
import java.util.regex.Matcher;
import java.util.regex.Pattern;
import java.util.stream.Stream;
import javax.tools.ToolProvider;

/** What README.md says holds: its example answers as it tells, it names each call, and each test that there is. */
public final class ReadmeTest {
    private static final Path README = Path.of("README.md");
    private static final Path TESTS = Path.of("src/test/java");
    private static final Pattern EXAMPLE = Pattern.compile("```java\\n(.*?)```", Pattern.DOTALL);
    private static final Pattern ANSWER = Pattern.compile("\\w+ (\\w+) = .*; +// ([-.\\w]+):.*");

    public static void main(String[] args) throws IOException, ReflectiveOperationException {
        String readme = Files.readString(README, StandardCharsets.UTF_8);
        Matcher example = EXAMPLE.matcher(readme);
        Check.due("has an example", true, example.find());
        answers(example.group(1));
        namesEachCall(readme);
        namesEachTest(readme);
        Check.due("the script that it names can be run", true, Files.isExecutable(Path.of(".ci/run")));
        Check.done();
    }

    private static void answers(String example) throws IOException, ReflectiveOperationException {
        List<String> names = new ArrayList<>();
        List<String> told = new ArrayList<>();
        for (String line : example.split("\n")) {
            Matcher answer = ANSWER.matcher(line);
            if (answer.matches()) {
                names.add(answer.group(1));
                told.add(answer.group(2));
            } else {
                Check.due("'" + line + "' tells no answer, but", true, line.endsWith(" = new LetterLocks();"));
            }
        }
        Check.due("tells answers", false, told.isEmpty());
        Object[] got = ran(example, names);
        for (int i = 0; i < names.size(); i++) {
            Check.due("the example's " + names.get(i), told.get(i), got[i].toString());
        }
    }

    /** Compiles the example as it stands in README.md, runs it and hands back what these names hold then. */
    private static Object[] ran(String example, List<String> names) throws IOException, ReflectiveOperationException {
        Path made = Files.createTempDirectory("readme");
        Path source = made.resolve("ReadmeExample.java");
        Files.writeString(source, "public final class ReadmeExample {\npublic static Object[] run() {\n" + example
            + "return new Object[] {" + String.join(", ", names) + "};\n}\n}\n", StandardCharsets.UTF_8);
        int failed = ToolProvider.getSystemJavaCompiler().run(null, null, null, "-d", made.toString(),
            "-cp", System.getProperty("java.class.path"), source.toString());
        Check.due("the example compiles", 0, failed);
        try (URLClassLoader classes = new URLClassLoader(new URL[] {made.toUri().toURL()})) {
            return (Object[]) classes.loadClass("ReadmeExample").getMethod("run").invoke(null);
        } finally {
            Files.deleteIfExists(made.resolve("ReadmeExample.class"));
            Files.deleteIfExists(source);
            Files.deleteIfExists(made);
        }
    }

    /** With its parameters' names, as the document declares it; and no call besides. */
    private static void namesEachCall(String readme) {
        Set<String> due = new TreeSet<>();
        Matcher declared = Pattern.compile("public \\w+ (\\w+\\(.*\\))").matcher(Doc.section("The public face"));
        while (declared.find()) {
            due.add(declared.group(1).replaceAll("(int|boolean) ", ""));
        }
        Set<String> named = new TreeSet<>();
        Matcher row = Pattern.compile("(?m)^\\| `(\\w+\\(.*?\\))` \\|").matcher(readme);
        while (row.find()) {
            named.add(row.group(1));
        }
        Check.due("the calls that it names", due, named);
    }

    private static void namesEachTest(String readme) throws IOException {
        Set<String> due = new TreeSet<>();
        try (Stream<Path> files = Files.list(TESTS)) {
            files.map(file -> file.getFileName().toString()).filter(name -> name.endsWith("Test.java"))
                .forEach(name -> due.add(name.replace(".java", "")));
        }
        Set<String> named = new TreeSet<>();
        Matcher row = Pattern.compile("(?m)^\\| `(\\w+Test)` \\|").matcher(readme);
        while (row.find()) {
            named.add(row.group(1));
        }
        Check.due("the tests that it names", due, named);
    }
}
