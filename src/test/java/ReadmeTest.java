import java.io.IOException;
import java.nio.file.Files;
import java.nio.file.Path;
import java.util.ArrayList;
import java.util.HashSet;
import java.util.List;
import java.util.Set;
import java.util.regex.Matcher;
import java.util.regex.Pattern;

/** README.md: each example answers as it says, and its table has every call of the face with what it is refused by. */
public final class ReadmeTest {
    private static final Path README = Path.of("README.md");
    private static final Path SOURCE = Path.of("src/main/java/DotScreens.java");
    private static final String NEW_OBJECT = "DotScreens x = new DotScreens();";
    /** A call and the first word of its comment. */
    private static final Pattern EXAMPLE = Pattern.compile("x\\.(\\w+\\(.*\\)); +// (-?\\w+)[:,;]?( .*)?");
    private static final Pattern ROW = Pattern.compile("\\| `(\\w+)\\(([^)]*)\\)` \\| .* \\| (\\w*).* ?\\|");
    private static final Pattern CALL = Pattern.compile(" {4}public (?:int|long|boolean) (\\w+)\\(([^)]*)\\).*\\{");

    public static void main(String[] args) throws IOException {
        List<String> lines = Files.readAllLines(README);
        Set<String> shown = examples(lines);
        table(lines, shown);
        constants(lines);
        testsAreNamed(lines);
        Check.end();
    }

    /** Runs all lines of all Java blocks; the names of the calls that they show. */
    private static Set<String> examples(List<String> lines) {
        Set<String> shown = new HashSet<>();
        DotScreens x = null;
        boolean isJava = false;
        for (String line : lines) {
            if (line.startsWith("```")) {
                isJava = line.equals("```java");
            } else if (isJava && line.equals(NEW_OBJECT)) {
                x = new DotScreens();
            } else if (isJava) {
                Matcher m = EXAMPLE.matcher(line);
                boolean isExample = m.matches() && x != null && Ask.isCall(m.group(1));
                Check.due("a call with its answer: " + line, isExample, true);
                if (isExample) {
                    Check.due("README: x." + m.group(1), Ask.of(x, m.group(1)), told(m.group(2)));
                    shown.add(m.group(1).substring(0, m.group(1).indexOf('(')));
                }
            }
        }
        return shown;
    }

    private static long told(String answer) {
        switch (answer) {
            case "NONE": return DotScreens.NONE;
            case "HIDDEN": return DotScreens.HIDDEN;
            case "true": return 1;
            case "false": return 0;
            case "throws":
            case "NoSuchElementException": return Ask.THROWS;
            default: return Long.parseLong(answer);
        }
    }

    /** The table has the calls of the class in their order, with their values; each is shown by an example, too. */
    private static void table(List<String> lines, Set<String> shown) throws IOException {
        List<String> there = new ArrayList<>();
        for (String line : lines) {
            Matcher m = ROW.matcher(line);
            if (m.matches()) {
                there.add(m.group(1) + "(" + m.group(2) + ")");
                refusal(m.group(1), m.group(2), m.group(3));
                Check.due("an example of " + m.group(1), shown.contains(m.group(1)), true);
            }
        }
        List<String> due = new ArrayList<>();
        for (String line : Files.readAllLines(SOURCE)) {
            Matcher m = CALL.matcher(line);
            if (m.matches()) {
                due.add(m.group(1) + "(" + m.group(2).replaceAll("(int|boolean) ", "") + ")");
            }
        }
        Check.due("calls of the class", due.size(), 35);
        Check.due("calls of the table " + there + ", due is " + due, there.equals(due), true);
    }

    /** No value of an object without inks is as great as this: every call that has one refuses it. */
    private static void refusal(String name, String values, String answer) {
        if (name.equals("feed")) {
            DotScreens x = new DotScreens();
            for (int i = 0; i < 8; i++) {
                x.feed(-1, -1, -1, -1, -1);
            }
            Check.due("feed beyond 160", x.feed(1, 0, 0, 0, 0), told(answer));
        } else if (name.equals("text")) {
            DotScreens x = new DotScreens();
            x.feed('x', 0, 0, 0, 0);
            Check.due("text with a fault", x.text(), told(answer));
        } else if (name.equals("fault")) {
            Check.due("fault is never refused", answer.isEmpty(), true);
        } else {
            String call = name + "(" + values.replaceAll("\\w+", Integer.toString(Integer.MAX_VALUE)) + ")";
            Check.due("refused: " + call, Ask.of(new DotScreens(), call), told(answer));
        }
    }

    private static void constants(List<String> lines) {
        String words = "`NONE` is " + DotScreens.NONE + ", `HIDDEN` is " + DotScreens.HIDDEN + ".";
        Check.due(words, String.join("\n", lines).contains(words), true);
    }

    /** The table of tests has every test that .ci/run runs. */
    private static void testsAreNamed(List<String> lines) throws IOException {
        try (var files = Files.list(Path.of("src/test/java"))) {
            for (Path file : files.toList()) {
                String name = file.getFileName().toString().replace(".java", "");
                boolean isNamed = lines.stream().anyMatch(line -> line.startsWith("| `" + name + "` |"));
                Check.due("README names " + name, isNamed || !name.endsWith("Test"), true);
            }
        }
    }
}
