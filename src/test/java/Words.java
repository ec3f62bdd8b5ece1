import java.io.IOException;
import java.nio.charset.StandardCharsets;
import java.nio.file.Files;
import java.nio.file.Path;
import java.util.ArrayList;
import java.util.List;
import java.util.regex.Matcher;
import java.util.regex.Pattern;

/** The document's words, and which of them a test has been written for. */
final class Words {
    static final int TERMS = 0;

    private static final int PROMISES = 36;
    private static final Path DOC = Path.of("../shared/DOC.md");

    /** What the document says in each section; words that a test has quoted are blanked out in the other row. */
    private final String[] sections = new String[PROMISES + 1];
    private final StringBuilder[] left = new StringBuilder[PROMISES + 1];
    private final boolean isThere;

    Words() {
        isThere = Files.exists(DOC);
        if (isThere) {
            read();
        } else {
            // the cases hold or fail without it, too
            System.out.println("the document is not at " + DOC + ": no words are looked up");
        }
    }

    private void read() {
        String doc;
        try {
            doc = Files.readString(DOC, StandardCharsets.UTF_8);
        } catch (IOException e) {
            throw new AssertionError("the document at " + DOC + " cannot be read", e);
        }
        sections[TERMS] = plain(section(doc, "## Terms"));
        for (int i = 1; i <= PROMISES; i++) {
            // the signature ahead is tested by FaceTest
            sections[i] = section(doc, "## Promise " + i + ":").replaceFirst("`[^`]*`: ", "");
        }
        for (int i = 0; i <= PROMISES; i++) {
            left[i] = new StringBuilder(sections[i]);
        }
    }

    private static String section(String doc, String heading) {
        int from = doc.indexOf(heading);
        int start = doc.indexOf('\n', from);
        int end = doc.indexOf("\n## ", start);
        if (from < 0 || start < 0 || end < 0) {
            throw new AssertionError("the document has no " + heading);
        }
        return doc.substring(start, end);
    }

    private static String plain(String text) {
        return text.replaceAll("(?m)^```.*$", "").replaceAll("==== \\d\\.", "");
    }

    /** Whether the words stand in the section; they count as tested from now on. */
    boolean quote(int section, String words) {
        if (!isThere) {
            return true;
        }
        int at = sections[section].indexOf(words);
        if (at < 0) {
            return false;
        }
        left[section].replace(at, at + words.length(), " ".repeat(words.length()));
        return true;
    }

    /** What no test has quoted, by section. */
    List<String> unquoted() {
        List<String> all = new ArrayList<>();
        for (int i = 0; isThere && i <= PROMISES; i++) {
            Matcher m = Pattern.compile("\\S(?:.*?)(?=\\s{3}|\\s*$)", Pattern.MULTILINE).matcher(left[i]);
            while (m.find()) {
                all.add((i == TERMS ? "Terms: " : "Promise " + i + ": ") + m.group());
            }
        }
        return all;
    }
}
