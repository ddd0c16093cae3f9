import java.io.IOException;
import java.lang.reflect.Method;
import java.lang.reflect.Modifier;
import java.nio.file.DirectoryStream;
import java.nio.file.Files;
import java.nio.file.Path;
import java.util.regex.Matcher;
import java.util.regex.Pattern;

/** README.md is true: its examples answer what stands behind them, and no call and no test is left out. */
public final class ReadmeTest {
    private static final Pattern BLOCK = Pattern.compile("```java\n(.*?)```", Pattern.DOTALL);
    private static final Pattern TEXT = Pattern.compile("String text = \"(.*)\";");
    private static final Pattern CALL = Pattern.compile("x\\.(\\w+)\\((.*)\\); +// (-?\\d+|[A-Z]+)(?::.*)?");

    public static void main(String[] args) throws IOException {
        String page = Files.readString(Path.of("README.md"));
        int examples = 0;
        Matcher block = BLOCK.matcher(page);
        while (block.find()) {
            examples++;
            example(block.group(1));
        }
        Check.due("examples on the page", examples, 3);
        callsAreNamed(page);
        testsAreNamed(page);
        Check.end();
    }

    private static void example(String lines) {
        Desk desk = new Desk();
        int answers = 0;
        for (String line : lines.split("\n")) {
            Matcher text = TEXT.matcher(line);
            Matcher call = CALL.matcher(line);
            if (text.matches()) {
                desk.feed(text.group(1));
            } else if (call.matches()) {
                answers++;
                desk.due((call.group(1) + " " + call.group(2).replace(",", "")).trim(), meant(call.group(3)));
            } else {
                Check.due("'" + line + "' is read", line.startsWith("x.") ? 0 : 1, 1);
            }
        }
        Check.due("an example has answers", answers > 0 ? 1 : 0, 1);
    }

    private static int meant(String answer) {
        switch (answer) {
            case "NONE":
                return Check.NONE;
            case "UNKNOWN":
                return Check.UNKNOWN;
            case "OUTSIDE":
                return Check.OUTSIDE;
            case "NOT":
                return Check.NOT;
            case "FULL":
                return Check.FULL;
            default:
                return Integer.parseInt(answer);
        }
    }

    private static void callsAreNamed(String page) {
        for (Method m : BodyAccounts.class.getDeclaredMethods()) {
            if (Modifier.isPublic(m.getModifiers())) {
                Check.due("the page has a row for " + m.getName(), page.matches("(?s).*\n\\|[^\n|]*`" + m.getName() + "\\(.*") ? 1 : 0, 1);
            }
        }
    }

    private static void testsAreNamed(String page) throws IOException {
        try (DirectoryStream<Path> tests = Files.newDirectoryStream(Path.of("src/test/java"), "*.java")) {
            for (Path test : tests) {
                String name = test.getFileName().toString().replace(".java", "");
                Check.due("the page names " + name, page.contains("`" + name + "`") ? 1 : 0, 1);
            }
        }
    }
}
