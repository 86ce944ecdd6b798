import java.io.IOException;
import java.lang.reflect.Method;
import java.nio.file.DirectoryStream;
import java.nio.file.Files;
import java.nio.file.Path;
import java.util.Arrays;
import java.util.regex.Matcher;
import java.util.regex.Pattern;

/** README.md: its calls answer what it says, and no call of the face and no test is left out; run from the project's folder. */
public final class ReadmeTest {
    private static final Due DUE = new Due();
    private static final Pattern BLOCK = Pattern.compile("(?s)```java\n(.*?)```");
    private static final Pattern TEXT = Pattern.compile("String text = \"(.*)\";");
    private static final Pattern CALL = Pattern.compile("x\\.(\\w+)\\((.*)\\); +// (-?\\d+): .*");
    /** Lines that no answer stands behind. */
    private static final String MAKE = "ColdOaths x = new ColdOaths();";
    private static final String[] LOOP = {"for (int i = 0; i < text.length(); i++) {", "x.put(0, i, text.charAt(i));", "}"};

    private static ColdOaths x;
    private static String text = "";

    public static void main(String[] args) throws IOException {
        String page = Files.readString(Path.of("README.md"));
        Matcher blocks = BLOCK.matcher(page);
        while (blocks.find()) {
            blocks.group(1).lines().map(String::trim).forEach(ReadmeTest::run);
        }
        DUE.is("README.md has an example", x == null ? 0 : 1, 1);
        for (Method call : Call.all()) {
            DUE.is("README.md names " + call.getName(), page.contains("`" + call.getName() + "`") ? 1 : 0, 1);
        }
        try (DirectoryStream<Path> tests = Files.newDirectoryStream(Path.of("src/test/java"), "*Test.java")) {
            for (Path test : tests) {
                String name = test.getFileName().toString().replace(".java", "");
                DUE.is("README.md names " + name, page.contains("| " + name + " |") ? 1 : 0, 1);
            }
        }
        DUE.end();
    }

    /** The few forms that the page uses; a line of another form counts as wrong, so that none goes unread. */
    private static void run(String line) {
        Matcher told = TEXT.matcher(line);
        Matcher call = CALL.matcher(line);
        if (line.equals(MAKE)) {
            x = new ColdOaths();
        } else if (told.matches()) {
            text = told.group(1);
        } else if (line.equals(LOOP[1])) {
            for (int i = 0; i < text.length(); i++) {
                x.put(0, i, text.charAt(i));
            }
        } else if (call.matches()) {
            DUE.is(line, Call.of(x, call.group(1), numbers(call.group(2))), Long.parseLong(call.group(3)));
        } else {
            DUE.is("README.md: " + line, Arrays.asList(LOOP).contains(line) ? 1 : 0, 1);
        }
    }

    private static int[] numbers(String list) {
        String plain = list.replace("text.length()", "" + text.length()).replace("ColdOaths.NONE", "" + ColdOaths.NONE);
        return Arrays.stream(plain.split(", ")).mapToInt(Integer::parseInt).toArray();
    }
}
