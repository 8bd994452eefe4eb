import java.io.IOException;
import java.nio.file.Files;
import java.nio.file.Path;
import java.util.Set;
import java.util.TreeSet;
import java.util.regex.Matcher;
import java.util.regex.Pattern;

/** The document, promise by promise, so that a test can quote the sentence it belongs to. */
final class Doc {
    static final int PROMISES = 51;
    private static final Path FILE = Path.of("../shared/DOC.md");

    private final String[] parts;

    Doc() throws IOException {
        // Part 0 is all that stands ahead of the promises: the face and the terms.
        parts = Files.readString(FILE).split("## Promise \\d+: ");
    }

    int promises() {
        return parts.length - 1;
    }

    /** A promise says so, or a term that it leans on. */
    boolean says(int promise, String words) {
        return plain(parts[promise]).contains(plain(words)) || plain(parts[0]).contains(plain(words));
    }

    private static String plain(String text) {
        return text.replaceAll("\\s+", " ");
    }

    /** The TROUBLES by which the call of a promise may be refused, as told behind its NONE, -1, -100 or false. */
    Set<Integer> troubles(int promise) {
        Set<Integer> set = new TreeSet<>();
        Matcher told = Pattern.compile("(?:NONE|-1|-100|false): ([^.]*)").matcher(plain(parts[promise]).replaceAll("\\([^)]*\\)", ""));
        while (told.find()) {
            if (told.group(1).contains("likewise")) {
                set.addAll(troubles(promise - 1));
            }
            Matcher number = Pattern.compile("\\b[1-6]\\b").matcher(told.group(1));
            while (number.find()) {
                set.add(Integer.parseInt(number.group()));
            }
        }
        return set;
    }
}
