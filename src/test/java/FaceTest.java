import java.io.IOException;
import java.lang.reflect.Constructor;
import java.lang.reflect.Field;
import java.lang.reflect.Method;
import java.lang.reflect.Modifier;
import java.nio.file.Files;
import java.nio.file.Path;
import java.util.Arrays;
import java.util.Comparator;
import java.util.NoSuchElementException;
import java.util.Random;
import java.util.Set;
import java.util.TreeSet;
import java.util.regex.Pattern;

/** The public face, the rules of LANGUAGE.md that can be seen from outside, and that no call throws by itself. */
public final class FaceTest {
    private static final String[] FACE = {
        "int feed(int, int, int, int, int)", "boolean end(int)", "int fault()", "int text()", "int ink(int, int)",
        "int brick(int, int)", "int home(int, int, int, int)", "int reduced(int, int)", "int spot(int, int, int)",
        "int rank(int, int, int)", "int ranked(int, int, int)", "boolean inked(int, int, int)", "int dots(int, int)",
        "int grown(int, int)", "int slope(int, int)", "int turn(int, int, int)", "int beat(int, int, int)",
        "long far(int, int, int)", "long common(int, int)", "long inCell(int, int)", "int overlay(int, int)",
        "int window(int, int, int, int, int, int)", "int densest(int, int, int, int)", "int next(int, int, int)",
        "int choose(int, int, int, boolean, int, int)", "int bestTurn(int, int)",
        "int screen(int, int, int, int, int)", "int shape(int, int)", "int tone(int, int)",
        "int offset(int, int, int)", "boolean swap(int, int)", "int drop(int)", "int status(int)", "int most(int)",
        "int count(int)"};

    public static void main(String[] args) throws Exception {
        face();
        source();
        neverThrows();
        Check.end();
    }

    private static String told(Method m) {
        StringBuilder text = new StringBuilder(m.getReturnType().getSimpleName()).append(' ').append(m.getName());
        text.append('(');
        for (int i = 0; i < m.getParameterCount(); i++) {
            text.append(i > 0 ? ", " : "").append(m.getParameterTypes()[i].getSimpleName());
        }
        return text.append(')').toString();
    }

    private static void face() throws Exception {
        Check.due("final", Modifier.isFinal(DotScreens.class.getModifiers()), true);
        Set<String> due = new TreeSet<>(Set.of(FACE));
        Set<String> there = new TreeSet<>();
        Set<String> names = new TreeSet<>();
        for (Method m : DotScreens.class.getDeclaredMethods()) {
            if (Modifier.isPublic(m.getModifiers())) {
                there.add(told(m));
                names.add(m.getName());
            }
        }
        Check.due("the methods " + there, there.equals(due), true);
        for (Class<?> inside : DotScreens.class.getDeclaredClasses()) {
            Check.due(inside + " is static", Modifier.isStatic(inside.getModifiers()), true);
            Check.due(inside + " is not public", Modifier.isPublic(inside.getModifiers()), false);
            for (Method m : inside.getDeclaredMethods()) {
                Check.due(m + " bears a name of the face", names.contains(m.getName()), false);
            }
        }
        for (Method m : DotScreens.class.getDeclaredMethods()) {
            boolean isHidden = Modifier.isPrivate(m.getModifiers());
            Check.due(m.toString(), isHidden || Modifier.isPublic(m.getModifiers()), true);
            Check.due(m + " bears a name of the face", isHidden && names.contains(m.getName()), false);
            Check.due(m + " has seven parameters at most", m.getParameterCount() <= 7, true);
        }
        for (Field f : DotScreens.class.getDeclaredFields()) {
            boolean isConstant = f.getName().equals("NONE") || f.getName().equals("HIDDEN");
            Check.due(f.toString(), isConstant ? Modifier.isPublic(f.getModifiers())
                    : Modifier.isPrivate(f.getModifiers()), true);
        }
        Constructor<?>[] makers = DotScreens.class.getDeclaredConstructors();
        Check.due("one constructor", makers.length, 1);
        Check.due("without parameters", makers[0].getParameterCount(), 0);
        Class<?>[] thrown = DotScreens.class.getMethod("ink", int.class, int.class).getExceptionTypes();
        Check.due("ink throws", thrown.length == 1 && thrown[0] == NoSuchElementException.class, true);
    }

    /** Words that the rules leave out. */
    private static void source() throws IOException {
        String source = Files.readString(Path.of("src/main/java/DotScreens.java"));
        String[] leftOut = {"->", "::", "\\btry\\b", "\\bcatch\\b", "\\bfinally\\b", "\\bassert\\b", "\\bsynchronized\\b",
            "Exact\\(", "\\bprotected\\b", "static \\{", "^package ", "Math\\.random", "\\bSystem\\.", "\\bwhile \\(true",
            "for \\(;;", "\\bgetMessage\\b", "^import (?!java\\.util\\.NoSuchElementException;)", "[^\\x00-\\x7f]"};
        for (String words : leftOut) {
            Check.due("left out: " + words, Pattern.compile(words, Pattern.MULTILINE).matcher(source).find(), false);
        }
    }

    private static int odd(Random random) {
        int[] edges = {Integer.MIN_VALUE, Integer.MAX_VALUE, -1, 0, 1, 2, 3, 4, 5, 15, 16, 31, 32, 33, 99, 100, 144,
            145, 999, 1000, 9999, 10000, -9999, -10000, Integer.MIN_VALUE + 1, 0x733b2c30, 0x73312c31};
        return random.nextInt(3) == 0 ? edges[random.nextInt(edges.length)] : random.nextInt(5);
    }

    private static void neverThrows() throws Exception {
        Random random = new Random(17);
        Method[] calls = DotScreens.class.getMethods();
        // reflection gives them in no sure order
        Arrays.sort(calls, Comparator.comparing(Method::toString));
        for (int run = 0; run < 300; run++) {
            DotScreens x = random.nextInt(3) == 0 ? new DotScreens() : Check.told("s2,1;s12,0d;s1,-12,1,0l;s-3,5t0");
            for (int i = 0; i < 500; i++) {
                Method call = calls[random.nextInt(calls.length)];
                if (call.getDeclaringClass() == DotScreens.class
                        && (random.nextInt(8) == 0 || !call.getName().matches("drop|text"))) {
                    ask(x, call, random);
                }
            }
        }
    }

    private static void ask(DotScreens x, Method call, Random random) throws Exception {
        Object[] values = new Object[call.getParameterCount()];
        for (int i = 0; i < values.length; i++) {
            values[i] = call.getParameterTypes()[i] == boolean.class ? (Object) random.nextBoolean() : odd(random);
        }
        boolean isDue = true;
        try {
            call.invoke(x, values);
        } catch (java.lang.reflect.InvocationTargetException e) {
            isDue = call.getName().equals("ink") && e.getCause().getClass() == NoSuchElementException.class;
        }
        Check.due(call.getName() + Arrays.toString(values) + " throws", isDue, true);
    }
}
