import java.io.IOException;
import java.io.UncheckedIOException;
import java.nio.charset.StandardCharsets;
import java.nio.file.Files;
import java.nio.file.Path;
import java.util.HashSet;
import java.util.Map;
import java.util.Set;
import java.util.TreeMap;

/** The document's sentences: a test names the one that it is for, and none that names an exception is left out. */
final class Doc {
    private static final Path FILE = Path.of("../shared/DOC.md");
    private static final Map<String, String> SECTIONS = sections();
    private static final Set<String> QUOTED = new HashSet<>();

    private Doc() {
    }

    /** The answers looked at from here on are due to this sentence; it must stand so in this section. */
    static void says(String section, String sentence) {
        Check.under(section + ", '" + sentence + "'");
        Check.due("stands in the document", true, SECTIONS.getOrDefault(section, "").contains(sentence));
        QUOTED.add(section + ": " + sentence);
    }

    static void says(int promise, String sentence) {
        says("Promise " + promise, sentence);
    }

    /** Looks that each promise, and each of the sentences on exceptions, has been quoted. */
    static void isQuoted() {
        for (Map.Entry<String, String> section : SECTIONS.entrySet()) {
            String name = section.getKey();
            if (name.startsWith("Promise ")) {
                Check.under(name);
                Check.due("has a test", true, QUOTED.stream().anyMatch(quoted -> quoted.startsWith(name + ": ")));
                section.getValue().lines().filter(line -> line.startsWith("Throws ")).forEach(line ->
                    Check.due("has a test of '" + line + "'", true, QUOTED.contains(name + ": " + line)));
            }
        }
    }

    private static Map<String, String> sections() {
        Map<String, String> found = new TreeMap<>();
        for (String section : text().split("(?m)^## ")) {
            String head = section.lines().findFirst().orElse("");
            found.put(head.replaceAll(":.*", ""), section);
        }
        return found;
    }

    private static String text() {
        try {
            return Files.readString(FILE, StandardCharsets.UTF_8);
        } catch (IOException e) {
            throw new UncheckedIOException(e);
        }
    }
}
