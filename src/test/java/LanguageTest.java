import java.io.IOException;
import java.nio.file.Files;
import java.nio.file.Path;
import java.util.regex.Matcher;
import java.util.regex.Pattern;

/** Rules of ../shared/LANGUAGE.md that can be seen in the source's words; run from the project's folder. */
public final class LanguageTest {
    private static final Due DUE = new Due();
    private static final Path SOURCE = Path.of("src/main/java/ColdOaths.java");

    private static final String[] FORBIDDEN = {"throw", "throws", "try", "catch", "synchronized", "assert", "package",
        "var", "Object", "equals", "hashCode", "toString", "Thread", "NaN", "\\w+Exact", "volatile", "native",
        "System\\s*\\.\\s*(?!arraycopy\\b)\\w+", "java\\.util\\.(?!Arrays;|ArrayList;|List;)[\\w*.]+",
        "static\\s*\\{", "->", "::", "\\w+Exception"};

    public static void main(String[] args) throws IOException {
        String source = Files.readString(SOURCE);
        String code = source.replaceAll("(?s)/\\*.*?\\*/", " ").replaceAll("//[^\n]*", " ");
        for (String word : FORBIDDEN) {
            String whole = word.matches("\\w.*\\w|\\w.*\\+") ? "\\b" + word + "\\b" : word;
            Matcher m = Pattern.compile(whole).matcher(code);
            DUE.is("'" + word + "' stands in the source", m.find() ? 1 : 0, 0);
        }
        DUE.is("signs beyond 127", source.chars().filter(c -> c > 127).count(), 0);
        for (String line : code.split("\n")) {
            if (line.startsWith("import ")) {
                DUE.is(line, line.matches("import java\\.util\\.(Arrays|ArrayList|List);") ? 1 : 0, 1);
            }
        }
        methodsStayShort(code);
        DUE.end();
    }

    /** A method is what begins with a line that ends in ") {" at the depth of a member. */
    private static void methodsStayShort(String code) {
        String[] lines = code.split("\n");
        for (int k = 0; k < lines.length; k++) {
            Matcher m = Pattern.compile("^( {4}| {8})(?! |for |if |while |switch |\\})[\\w\\[\\] ]+\\((.*)\\) \\{$").matcher(lines[k]);
            if (!m.matches()) {
                continue;
            }
            int end = k + 1;
            while (end < lines.length && !lines[end].equals(m.group(1) + "}")) {
                end++;
            }
            DUE.is(lines[k].trim() + " is longer than 60 lines", end - k < 60 ? 0 : 1, 0);
            DUE.is(lines[k].trim() + " takes more than 7", m.group(2).split(",").length <= 7 ? 0 : 1, 0);
        }
    }
}
