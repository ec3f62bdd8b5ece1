import java.io.IOException;
import java.lang.reflect.Constructor;
import java.lang.reflect.Field;
import java.lang.reflect.Method;
import java.lang.reflect.Modifier;
import java.nio.file.Files;
import java.nio.file.Path;
import java.util.ArrayList;
import java.util.Arrays;
import java.util.Comparator;
import java.util.List;
import java.util.NoSuchElementException;
import java.util.Random;
import java.util.Set;
import java.util.TreeSet;
import java.util.regex.Matcher;
import java.util.regex.Pattern;

/** The public face, the rules of LANGUAGE.md that can be seen from outside, and that no call throws by itself. */
public final class FaceTest {
    private static final Path SOURCE = Path.of("src/main/java/DotScreens.java");
    private static final String[] FACE = {
        "int feed(int, int, int, int, int)", "boolean end(int)", "int fault()", "int text()", "int ink(int, int)",
        "int brick(int, int)", "int home(int, int, int, int)", "int reduced(int, int)", "int spot(int, int, int)",
        "int rank(int, int, int)", "int ranked(int, int, int)", "boolean inked(int, int, int)", "int dots(int, int)",
        "int grown(int, int)", "int slope(int, int)", "int turn(int, int, int)", "int beat(int, int, int)",
        "long far(int, int, int)", "long common(int, int)", "long inCell(int, int)", "int overlay(int, int)",
        "int window(int, int, int, int, int, int)", "int densest(int, int, int, int)", "int next(int, int, int)",
        "int choose(int, int, int, boolean, int, int)", "int bestTurn(int, int)",
        "int screen(int, int, int, int, int)", "int shape(int, int)", "int tone(int, int)",
        "int offset(int, int, int)", "boolean swap(int, int)", "int drop(int)", "int status(int)", "int most(int)",
        "int count(int)"};

    public static void main(String[] args) throws Exception {
        face();
        faceAsWritten();
        source();
        rules();
        neverThrows();
        Check.end();
    }

    private static String told(Method m) {
        StringBuilder text = new StringBuilder(m.getReturnType().getSimpleName()).append(' ').append(m.getName());
        text.append('(');
        for (int i = 0; i < m.getParameterCount(); i++) {
            text.append(i > 0 ? ", " : "").append(m.getParameterTypes()[i].getSimpleName());
        }
        return text.append(')').toString();
    }

    private static void face() throws Exception {
        Check.due("final", Modifier.isFinal(DotScreens.class.getModifiers()), true);
        Set<String> due = new TreeSet<>(Set.of(FACE));
        Set<String> there = new TreeSet<>();
        Set<String> names = new TreeSet<>();
        for (Method m : DotScreens.class.getDeclaredMethods()) {
            if (Modifier.isPublic(m.getModifiers())) {
                there.add(told(m));
                names.add(m.getName());
            }
        }
        Check.due("the methods " + there, there.equals(due), true);
        for (Class<?> inside : DotScreens.class.getDeclaredClasses()) {
            Check.due(inside + " is static", Modifier.isStatic(inside.getModifiers()), true);
            Check.due(inside + " is not public", Modifier.isPublic(inside.getModifiers()), false);
            for (Method m : inside.getDeclaredMethods()) {
                Check.due(m + " bears a name of the face", names.contains(m.getName()), false);
            }
        }
        for (Method m : DotScreens.class.getDeclaredMethods()) {
            boolean isHidden = Modifier.isPrivate(m.getModifiers());
            Check.due(m.toString(), isHidden || Modifier.isPublic(m.getModifiers()), true);
            Check.due(m + " bears a name of the face", isHidden && names.contains(m.getName()), false);
            Check.due(m + " has seven parameters at most", m.getParameterCount() <= 7, true);
        }
        for (Field f : DotScreens.class.getDeclaredFields()) {
            boolean isConstant = f.getName().equals("NONE") || f.getName().equals("HIDDEN");
            Check.due(f.toString(), isConstant ? Modifier.isPublic(f.getModifiers())
                    : Modifier.isPrivate(f.getModifiers()), true);
        }
        Constructor<?>[] makers = DotScreens.class.getDeclaredConstructors();
        Check.due("one constructor", makers.length, 1);
        Check.due("without parameters", makers[0].getParameterCount(), 0);
        Class<?>[] thrown = DotScreens.class.getMethod("ink", int.class, int.class).getExceptionTypes();
        Check.due("ink throws", thrown.length == 1 && thrown[0] == NoSuchElementException.class, true);
    }

    /** Every line of the document's face stands in the class word for word; looked up where the document is. */
    private static void faceAsWritten() throws IOException {
        Path doc = Path.of("../shared/DOC.md");
        if (!Files.exists(doc)) {
            System.out.println("the document is not at " + doc + ": its face is not looked up");
            return;
        }
        String text = Files.readString(doc);
        text = text.substring(text.indexOf("## The public face"), text.indexOf("## Terms"));
        String source = Files.readString(SOURCE);
        int lines = 0;
        for (String line : text.split("\n")) {
            if (line.startsWith("    public ")) {
                lines++;
                String words = line.contains("=") ? line : line.replace(";", " {");
                Check.due("the class has: " + words.trim(), source.contains("\n" + words + "\n"), true);
            }
        }
        Check.due("lines of the face", lines, FACE.length + 3);
    }

    /** Bounds of LANGUAGE.md on the class's size, and where it makes objects. */
    private static void rules() throws IOException {
        Class<?>[] inside = DotScreens.class.getDeclaredClasses();
        Check.due("twelve classes at most", inside.length + 1 <= 12, true);
        fewFields(DotScreens.class);
        for (Class<?> one : inside) {
            fewFields(one);
        }
        List<String> lines = Files.readAllLines(SOURCE);
        Check.due("sixty lines a method at most", longestMethod(lines) <= 60, true);
        // rows are made with the object and used again: a call makes nothing but what it throws
        List<String> made = new ArrayList<>();
        for (String line : lines) {
            if (line.contains("new ") && !line.contains("private final ") && !line.contains("* ")) {
                made.add(line.trim());
            }
        }
        Check.due("made but for fields: " + made, made.size() == 2 && made.get(0).equals("inks[i] = new Ink();")
                && made.get(1).startsWith("throw new NoSuchElementException("), true);
    }

    /** A method begins with a line of its class's depth that ends in ") {" and goes to the next "}" of that depth. */
    private static int longestMethod(List<String> lines) {
        Pattern head = Pattern.compile("( {4}| {8})(?!if |for |while |switch |\\s).*\\) (throws \\w+ )?\\{");
        int longest = 0;
        for (int i = 0; i < lines.size(); i++) {
            Matcher m = head.matcher(lines.get(i));
            if (m.matches()) {
                int end = i;
                while (!lines.get(end).equals(m.group(1) + "}")) {
                    end++;
                }
                longest = Math.max(longest, end - i + 1);
            }
        }
        Check.due("methods were found", longest > 10, true);
        return longest;
    }

    private static void fewFields(Class<?> one) {
        int fields = 0;
        for (Field f : one.getDeclaredFields()) {
            boolean isStatic = Modifier.isStatic(f.getModifiers());
            Check.due(f + " is final, if static", !isStatic || Modifier.isFinal(f.getModifiers()), true);
            fields += isStatic ? 0 : 1;
        }
        Check.due(one + " has twenty fields at most", fields <= 20, true);
    }

    /** Words that the rules leave out. */
    private static void source() throws IOException {
        String source = Files.readString(SOURCE);
        String[] leftOut = {"->", "::", "\\btry\\b", "\\bcatch\\b", "\\bfinally\\b", "\\bassert\\b", "\\bsynchronized\\b",
            "Exact\\(", "\\bprotected\\b", "static \\{", "^package ", "Math\\.random", "\\bSystem\\.", "\\bwhile \\(true",
            "for \\(;;", "\\bgetMessage\\b", "^import (?!java\\.util\\.NoSuchElementException;)", "[^\\x00-\\x7f]"};
        for (String words : leftOut) {
            Check.due("left out: " + words, Pattern.compile(words, Pattern.MULTILINE).matcher(source).find(), false);
        }
    }

    private static int odd(Random random) {
        int[] edges = {Integer.MIN_VALUE, Integer.MAX_VALUE, -1, 0, 1, 2, 3, 4, 5, 15, 16, 31, 32, 33, 99, 100, 144,
            145, 999, 1000, 9999, 10000, -9999, -10000, Integer.MIN_VALUE + 1, 0x733b2c30, 0x73312c31};
        return random.nextInt(3) == 0 ? edges[random.nextInt(edges.length)] : random.nextInt(5);
    }

    private static void neverThrows() throws Exception {
        Random random = new Random(17);
        Method[] calls = DotScreens.class.getMethods();
        // reflection gives them in no sure order
        Arrays.sort(calls, Comparator.comparing(Method::toString));
        for (int run = 0; run < 300; run++) {
            DotScreens x = random.nextInt(3) == 0 ? new DotScreens() : Check.told("s2,1;s12,0d;s1,-12,1,0l;s-3,5t0");
            for (int i = 0; i < 500; i++) {
                Method call = calls[random.nextInt(calls.length)];
                if (call.getDeclaringClass() == DotScreens.class
                        && (random.nextInt(8) == 0 || !call.getName().matches("drop|text"))) {
                    ask(x, call, random);
                }
            }
        }
    }

    private static void ask(DotScreens x, Method call, Random random) throws Exception {
        Object[] values = new Object[call.getParameterCount()];
        for (int i = 0; i < values.length; i++) {
            values[i] = call.getParameterTypes()[i] == boolean.class ? (Object) random.nextBoolean() : odd(random);
        }
        boolean isDue = true;
        try {
            call.invoke(x, values);
        } catch (java.lang.reflect.InvocationTargetException e) {
            isDue = call.getName().equals("ink") && e.getCause().getClass() == NoSuchElementException.class;
        }
        Check.due(call.getName() + Arrays.toString(values) + " throws", isDue, true);
    }
}
