import java.io.IOException;
import java.io.UncheckedIOException;
import java.nio.charset.StandardCharsets;
import java.nio.file.Files;
import java.nio.file.Path;
import java.util.Arrays;
import java.util.Map;
import java.util.TreeMap;
import java.util.regex.Matcher;
import java.util.regex.Pattern;

/** The document's sentences: a test names the one that it is for, and none is left without a test. */
final class Doc {
    private static final Path FILE = Path.of("../shared/DOC.md");

    /** A section's head, and a bare name of what a call is given, say nothing of their own. */
    private static final Pattern NAMES = Pattern.compile("\\A[^\\n]*"
        + "|- `(lock|ring|letter|word|a|b|rack|hours)`: (the|a|its|how) (lock|ring|letter|word|rack|many)");

    private static final Map<String, String> SECTIONS = sections();
    private static final Map<String, boolean[]> LEFT = left();

    private Doc() {
    }

    /** The answers looked at from here on are due to this sentence; it must stand so in this section. */
    static void says(String section, String sentence) {
        Check.under(section + ", '" + sentence + "'");
        int at = section(section).indexOf(sentence);
        Check.due("stands in the document", true, at >= 0);
        while (at >= 0) {
            Arrays.fill(LEFT.get(section), at, at + sentence.length(), false);
            at = section(section).indexOf(sentence, at + 1);
        }
    }

    static void says(int promise, String sentence) {
        says("Promise " + promise, sentence);
    }

    /** This stands in the section, but is no test's: no answer could break it. */
    static void onlyTells(String section, String text) {
        says(section, text);
    }

    /** A section from its head to the next one's; an empty text, if there is none. */
    static String section(String name) {
        return SECTIONS.getOrDefault(name, "");
    }

    /** Looks that no section has words that no test has quoted. */
    static void isQuoted() {
        for (String name : SECTIONS.keySet()) {
            Check.under(name);
            Check.due("what no test has quoted", "", leftOf(name));
        }
    }

    private static String leftOf(String name) {
        StringBuilder found = new StringBuilder();
        String section = section(name);
        for (int i = 0; i < section.length(); i++) {
            boolean isLeft = LEFT.get(name)[i];
            boolean isTold = isLeft && Character.isLetterOrDigit(section.charAt(i));
            if (isTold || isLeft && found.length() > 0 && section.charAt(i) == ' ') {
                found.append(section.charAt(i));
            }
        }
        return found.toString().trim();
    }

    private static Map<String, String> sections() {
        Map<String, String> found = new TreeMap<>();
        for (String section : text().split("(?m)^## ")) {
            String head = section.lines().findFirst().orElse("");
            found.put(head.replaceAll(":.*", ""), section);
        }
        return found;
    }

    private static Map<String, boolean[]> left() {
        Map<String, boolean[]> left = new TreeMap<>();
        for (Map.Entry<String, String> section : SECTIONS.entrySet()) {
            boolean[] each = new boolean[section.getValue().length()];
            Arrays.fill(each, true);
            Matcher names = NAMES.matcher(section.getValue());
            while (names.find()) {
                Arrays.fill(each, names.start(), names.end(), false);
            }
            left.put(section.getKey(), each);
        }
        return left;
    }

    private static String text() {
        try {
            return Files.readString(FILE, StandardCharsets.UTF_8);
        } catch (IOException e) {
            throw new UncheckedIOException(e);
        }
    }
}
