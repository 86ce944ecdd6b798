import java.io.IOException;
import java.lang.reflect.Method;
import java.lang.reflect.Modifier;
import java.nio.file.Files;
import java.nio.file.Path;
import java.util.Arrays;
import java.util.Map;
import java.util.TreeMap;
import java.util.regex.Matcher;
import java.util.regex.Pattern;

/** Rules of ../shared/LANGUAGE.md that can be seen in the source's words; run from the project's folder. */
public final class LanguageTest {
    private static final Due DUE = new Due();
    private static final Path SOURCE = Path.of("src/main/java/ColdOaths.java");

    private static final int MOST_DEEP = 8;
    /** The methods of the source by their names. */
    private static final Map<String, String> BODIES = new TreeMap<>();

    private static final String[] FORBIDDEN = {"throw", "throws", "try", "catch", "synchronized", "assert", "package",
        "var", "Object", "equals", "hashCode", "toString", "Thread", "NaN", "\\w+Exact", "volatile", "native",
        "System\\s*\\.\\s*(?!arraycopy\\b)\\w+", "java\\.util\\.(?!Arrays;|ArrayList;|List;)[\\w*.]+",
        "static\\s*\\{", "->", "::", "\\w+Exception"};

    public static void main(String[] args) throws IOException {
        String source = Files.readString(SOURCE);
        String code = source.replaceAll("(?s)/\\*.*?\\*/", " ").replaceAll("//[^\n]*", " ");
        for (String word : FORBIDDEN) {
            String whole = word.matches("\\w.*\\w|\\w.*\\+") ? "\\b" + word + "\\b" : word;
            Matcher m = Pattern.compile(whole).matcher(code);
            DUE.is("'" + word + "' stands in the source", m.find() ? 1 : 0, 0);
        }
        DUE.is("signs beyond 127", source.chars().filter(c -> c > 127).count(), 0);
        for (String line : code.split("\n")) {
            if (line.startsWith("import ")) {
                DUE.is(line, line.matches("import java\\.util\\.(Arrays|ArrayList|List);") ? 1 : 0, 1);
            }
        }
        readMethods(code);
        callsStayFlat();
        objectsAreMadeOnce();
        classesStaySmall();
        DUE.end();
    }

    /** A method is what begins with a line that ends in ") {" at the depth of a member. */
    private static void readMethods(String code) {
        String[] lines = code.split("\n");
        for (int k = 0; k < lines.length; k++) {
            Matcher m = Pattern.compile("^( {4}| {8})(?! |for |if |while |switch |\\})[\\w\\[\\] ]*?(\\w+)\\((.*)\\) \\{$").matcher(lines[k]);
            if (!m.matches()) {
                continue;
            }
            int end = k + 1;
            while (end < lines.length && !lines[end].equals(m.group(1) + "}")) {
                end++;
            }
            DUE.is(lines[k].trim() + " is longer than 60 lines", end - k < 60 ? 0 : 1, 0);
            DUE.is(lines[k].trim() + " takes more than 7", m.group(3).split(",").length <= 7 ? 0 : 1, 0);
            // Methods of one name are taken together: that makes no way shorter than it is.
            BODIES.merge(m.group(2), String.join("\n", Arrays.asList(lines).subList(k + 1, end)), String::concat);
        }
    }

    private static void callsStayFlat() {
        for (Method call : Call.all()) {
            DUE.is(call.getName() + " was read", BODIES.containsKey(call.getName()) ? 1 : 0, 1);
            int depth = depthOf(call.getName(), 0);
            DUE.is(call.getName() + " goes " + depth + " calls deep", depth <= MOST_DEEP ? 0 : 1, 0);
        }
    }

    /** How many calls stand open at most from a method on, itself among them; a recursion comes beyond the bound. */
    private static int depthOf(String method, int above) {
        int most = 0;
        Matcher m = Pattern.compile("\\b(\\w+)\\(").matcher(BODIES.get(method));
        while (above <= MOST_DEEP && m.find()) {
            if (BODIES.containsKey(m.group(1))) {
                most = Math.max(most, depthOf(m.group(1), above + 1));
            }
        }
        return most + 1;
    }

    /** What an object needs it makes with itself, so that no call adds to the room that a run has. */
    private static void objectsAreMadeOnce() {
        BODIES.forEach((name, body) -> {
            boolean makes = Pattern.compile("\\bnew\\b|\\.clone\\(|copyOf").matcher(body).find();
            DUE.is(name + " makes objects", makes && !name.equals("ColdOaths") ? 1 : 0, 0);
        });
    }

    private static void classesStaySmall() {
        Class<?>[] inside = ColdOaths.class.getDeclaredClasses();
        DUE.is("more than 12 classes", inside.length + 1 <= 12 ? 0 : 1, 0);
        for (Class<?> c : inside) {
            fieldsAreFew(c);
        }
        fieldsAreFew(ColdOaths.class);
    }

    private static void fieldsAreFew(Class<?> c) {
        long fields = Arrays.stream(c.getDeclaredFields()).filter(f -> !Modifier.isStatic(f.getModifiers())).count();
        DUE.is(c + " has more than 20 fields", fields <= 20 ? 0 : 1, 0);
    }
}
