import java.io.IOException;
import java.io.UncheckedIOException;
import java.nio.file.Files;
import java.nio.file.Path;
import java.util.Map;
import java.util.Set;
import java.util.TreeMap;

/** ../shared/DOC.md by its sections: HEAD, TERMS and each promise by its number. */
final class Document {
    static final int HEAD = -1, TERMS = 0, PROMISES = 34;
    private static final Path FILE = Path.of("../shared/DOC.md");

    private final Map<Integer, String> whole = new TreeMap<>();
    /** What no test has quoted yet. */
    private final Map<Integer, String> left = new TreeMap<>();

    Document() {
        try {
            read(Files.readString(FILE));
        } catch (IOException e) {
            throw new UncheckedIOException(e);
        }
        left.putAll(whole);
    }

    private void read(String text) {
        for (String part : text.split("(?m)^## ")) {
            String title = part.lines().findFirst().orElse("");
            String body = part.substring(title.length());
            if (title.equals("What it is")) {
                whole.put(HEAD, body);
            } else if (title.equals("Terms")) {
                whole.put(TERMS, body.replaceAll("(?m)^(Ahead of the calls .*|```.*)$", "").replaceAll("==== \\d ", ""));
            } else if (title.startsWith("Promise ")) {
                int number = Integer.parseInt(title.substring(8, title.indexOf(':')));
                whole.put(number, body.substring(body.indexOf("`: ") + 3));
            }
        }
    }

    boolean says(int section, String words) {
        return whole.getOrDefault(section, "").contains(words);
    }

    void quoted(int section, String words) {
        left.put(section, left.getOrDefault(section, "").replace(words, " "));
    }

    Set<Integer> sections() {
        return whole.keySet();
    }

    /** What of a section no test has quoted, without the signs that stand between sentences. */
    String unquoted(int section) {
        String rest = left.getOrDefault(section, "").replaceAll("\\s+", " ");
        return rest.matches(".*[A-Za-z0-9].*") ? rest.trim() : "";
    }
}
