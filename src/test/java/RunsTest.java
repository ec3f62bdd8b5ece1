import java.util.ArrayList;
import java.util.List;
import java.util.Random;

/**
 * Promises 1 to 36 together: long runs of all calls, mixed, each answered by the class and by the second reading of the
 * document, up to the last call that an object serves for.
 */
public final class RunsTest {
    private static final int RUNS = 400;
    private static final int CALLS_MOST = 512;
    private static final int[] ODD = {Integer.MIN_VALUE, Integer.MAX_VALUE, -1, 0, 1, 2, 3, 4, 9, 15, 16, 20, 21, 32, 33, 99,
        100, 101, -99, -100, 144, 145, 999, 1000, -999, -1000, 9999, 10000, -9999, -10000};

    private final Random random;
    private final DotScreens x = new DotScreens();
    private final Second second = new Second();
    private final List<String> calls = new ArrayList<>();

    private RunsTest(int seed) {
        random = new Random(seed);
    }

    public static void main(String[] args) {
        for (int seed = 0; seed < RUNS; seed++) {
            new RunsTest(seed).run(seed);
        }
        Check.end();
    }

    private void run(int seed) {
        tell();
        boolean isDue = true;
        while (isDue && calls.size() < CALLS_MOST) {
            isDue = step();
        }
        if (!isDue) {
            System.out.println("run " + seed + ", call " + calls.size() + "; the calls ahead of it: "
                    + calls.subList(Math.max(0, calls.size() - 15), calls.size()));
        }
    }

    private boolean ask(String name, Object... values) {
        if (calls.size() >= CALLS_MOST) {
            return true;
        }
        StringBuilder call = new StringBuilder(name).append('(');
        for (int i = 0; i < values.length; i++) {
            call.append(i > 0 ? ", " : "").append(values[i]);
        }
        calls.add(call.append(')').toString());
        long got = Ask.of(x, call.toString());
        long want = Ask.of(second, call.toString());
        Check.due(call.toString(), got, want);
        return got == want;
    }

    private boolean step() {
        switch (random.nextInt(12)) {
            case 0: return random.nextInt(6) == 0 ? tell() : askTape();
            case 1: case 2: return change();
            case 3: return askCouple();
            case 4: return askSet();
            case 5: return askPixels();
            case 6: return askChoice();
            case 7: return ask("most", few(8)) && ask("status", few(4)) && ask("count", few(3));
            default: return askInk();
        }
    }

    // ---- values: near what there is, now and then odd ones

    private int odd() {
        return ODD[random.nextInt(ODD.length)];
    }

    /** 0 to n less 1, now and then one more or less, or an odd one. */
    private int few(int n) {
        int way = random.nextInt(25);
        return way == 0 ? odd() : way == 1 ? n : way == 2 ? -1 : random.nextInt(Math.max(1, n));
    }

    private int ink() {
        return few(second.count(0));
    }

    private int set() {
        return few(1 << second.count(0));
    }

    private int upTo(int most) {
        int way = random.nextInt(20);
        return way == 0 ? odd() : way == 1 ? most : way == 2 ? -most : random.nextInt(2 * most + 1) - most;
    }

    private int pixel() {
        return random.nextInt(3) == 0 ? upTo(9999) : random.nextInt(60) - 30;
    }

    private int corner() {
        return random.nextInt(3) == 0 ? upTo(999) : random.nextInt(60) - 30;
    }

    private int side() {
        return random.nextInt(20) == 0 ? odd() : 1 + random.nextInt(random.nextInt(8) == 0 ? 32 : 12);
    }

    /** Two pairs of a CELL, mostly. */
    private int[] pairs() {
        int most = random.nextInt(3) == 0 ? 12 : 1 + random.nextInt(12);
        while (true) {
            int[] p = new int[4];
            for (int i = 0; i < 4; i++) {
                p[i] = random.nextInt(2 * most + 1) - most;
            }
            if (random.nextInt(3) == 0) {
                p = new int[] {p[0], p[1], -p[1], p[0]};
            }
            int cell = Math.abs(p[0] * p[3] - p[1] * p[2]);
            if (cell >= 1 && cell <= 144 || random.nextInt(25) == 0) {
                return p;
            }
        }
    }

    // ---- the tape

    private boolean tell() {
        ask("end", 0);
        String text = text();
        int at = 0;
        boolean isDue = true;
        while (isDue && at < text.length()) {
            int[] words = new int[5];
            for (int i = 0; i < 20 && at < text.length(); i++) {
                // bytes of 0 are left out, wherever they stand
                if (random.nextInt(12) != 0) {
                    words[i / 4] |= text.charAt(at) << 24 - i % 4 * 8;
                    at++;
                }
            }
            isDue = ask("feed", words[0], words[1], words[2], words[3], words[4]);
        }
        return isDue && ask("fault") && ask("text") && ask("count", 1) && ask("count", 0);
    }

    private String text() {
        StringBuilder text = new StringBuilder();
        int clauses = random.nextInt(12) == 0 ? 5 : random.nextInt(8) == 0 ? 0 : 1 + random.nextInt(4);
        clauses = clauses > 0 && clauses < 3 && random.nextBoolean() ? 4 : clauses;
        for (int i = 0; i < clauses; i++) {
            text.append(i > 0 ? ";" : "").append(clause());
        }
        if (random.nextInt(4) == 0) {
            for (int i = 0; i < 8; i++) {
                blank(text);
            }
        }
        // the first text of a run is mostly as it should be, so that there are inks to ask for
        for (int i = random.nextInt(calls.size() < 2 ? 20 : 2) == 0 ? 1 + random.nextInt(2) : 0; i > 0; i--) {
            spoil(text);
        }
        return text.toString();
    }

    private String clause() {
        int[] p = pairs();
        StringBuilder clause = new StringBuilder("s").append(p[0]).append(',').append(p[1]);
        if (p[2] != -p[1] || p[3] != p[0] || random.nextInt(4) == 0) {
            clause.append(',').append(p[2]).append(',').append(p[3]);
        }
        String[] letters = {"rdl".substring(random.nextInt(3)).substring(0, 1), "t" + random.nextInt(101),
            "o" + (random.nextInt(199) - 99) + "," + (random.nextInt(199) - 99)};
        int start = random.nextInt(3);
        for (int i = 0; i < 3; i++) {
            clause.append(random.nextBoolean() ? letters[(start + i) % 3] : "");
        }
        return clause.toString();
    }

    /** Anywhere but within a number or behind a -, mostly. */
    private void blank(StringBuilder text) {
        int at = random.nextInt(text.length() + 1);
        boolean isInNumber = at > 0 && at < text.length() && "-0123456789".indexOf(text.charAt(at - 1)) >= 0
                && "0123456789".indexOf(text.charAt(at)) >= 0;
        if (!isInNumber || random.nextInt(10) == 0) {
            text.insert(at, ' ');
        }
    }

    private void spoil(StringBuilder text) {
        String signs = "s,;rdlto-0123456789 x\u00ff";
        char sign = signs.charAt(random.nextInt(signs.length()));
        int at = random.nextInt(text.length() + 1);
        int way = random.nextInt(3);
        if (way == 0 || at == text.length()) {
            text.insert(at, sign);
        } else if (way == 1) {
            text.setCharAt(at, sign);
        } else {
            text.deleteCharAt(at);
        }
    }

    private boolean askTape() {
        if (random.nextInt(3) == 0) {
            return fill();
        }
        return ask("end", random.nextInt(3) == 0 ? odd() : random.nextInt(second.count(1) + 2)) && ask("fault")
                && ask("count", few(2));
    }

    /** Feeds until the tape is full, with bytes of 0 in odd places, and some less now and then. */
    private boolean fill() {
        boolean isDue = true;
        for (int i = random.nextInt(12); isDue && i >= 0; i--) {
            int[] words = new int[5];
            for (int j = 0; j < 5; j++) {
                words[j] = 0x2c31732d & ~(random.nextInt(3) == 0 ? 255 << 8 * random.nextInt(4) : 0);
            }
            isDue = ask("feed", words[0], words[1], words[2], words[3], random.nextInt(8) == 0 ? odd() : words[4]);
        }
        return isDue && ask("count", 1);
    }

    // ---- changes

    private boolean change() {
        switch (random.nextInt(8)) {
            case 0: case 1:
                int[] p = pairs();
                p[random.nextInt(4)] += random.nextInt(20) == 0 ? 30 : 0;
                int ink = ink();
                boolean isDue = ask("screen", ink, p[0], p[1], p[2], p[3]);
                return isDue && (random.nextInt(8) != 0 || ask("screen", ink, p[0], p[1], p[2], p[3]));
            case 2: return ask("shape", ink(), few(3));
            case 3: case 4: return ask("tone", ink(), random.nextInt(8) == 0 ? odd() : random.nextInt(101));
            case 5: return askOffset();
            case 6: return ask("swap", ink(), ink());
            default: return random.nextInt(12) != 0 || ask("drop", ink());
        }
    }

    /** Sometimes the same again, or moved by one alone. */
    private boolean askOffset() {
        int ink = ink();
        int px = upTo(99);
        int py = upTo(99);
        boolean isDue = ask("offset", ink, px, py);
        int way = random.nextInt(4);
        return isDue && (way == 0 ? ask("offset", ink, px, py) : way == 1 ? ask("offset", ink, px - 1, py) : true);
    }

    // ---- questions

    private boolean askInk() {
        switch (random.nextInt(10)) {
            case 0: return ask("ink", ink(), few(10));
            case 1: return ask("brick", ink(), few(3));
            case 2: return ask("home", ink(), pixel(), pixel(), few(2));
            case 3: return ask("reduced", ink(), few(4));
            case 4: return ask("spot", ink(), pixel(), pixel());
            case 5: return ask("rank", ink(), pixel(), pixel());
            case 6: return ask("inked", ink(), pixel(), pixel());
            case 7: return ask("ranked", ink(), few(random.nextBoolean() ? 9 : 144), few(2));
            case 8: return ask("dots", ink(), few(random.nextBoolean() ? 9 : 144));
            default: return ask("grown", ink(), few(2)) && ask("slope", ink(), few(2));
        }
    }

    private boolean askCouple() {
        return ask("turn", ink(), ink(), few(2)) && ask("beat", ink(), ink(), few(5)) && ask("far", ink(), ink(), few(3));
    }

    private boolean askSet() {
        return ask("common", set(), few(9)) && ask("inCell", set(), ink());
    }

    private boolean askPixels() {
        switch (random.nextInt(4)) {
            case 0: return ask("overlay", pixel(), pixel());
            case 1:
                boolean isSet = random.nextBoolean();
                int what = random.nextInt(20) == 0 ? odd() : isSet ? 1 : 0;
                return ask("window", corner(), corner(), side(), side(), what, isSet ? set() : few(second.count(0) + 1));
            case 2: return ask("densest", corner(), corner(), side(), side());
            default: return ask("next", corner(), corner(), random.nextInt(4) == 0 ? few(16) : set());
        }
    }

    private boolean askChoice() {
        if (random.nextInt(2) == 0) {
            return ask("bestTurn", ink(), few(2));
        }
        int low = 1 + random.nextInt(144);
        int high = Math.min(144, low + random.nextInt(21));
        low = random.nextInt(20) == 0 ? odd() : low;
        high = random.nextInt(20) == 0 ? odd() : random.nextInt(20) == 0 ? low + 21 : high;
        int n = random.nextInt(15) == 0 ? odd() : 2 + random.nextInt(2);
        boolean isFar = random.nextBoolean();
        int again = random.nextInt(4) == 0 ? 5 - n : n;
        boolean isFarAgain = random.nextInt(4) == 0 ? !isFar : isFar;
        return ask("choose", n, low, high, isFar, few(n == 3 ? 3 : 2), few(2))
                && ask("choose", again, low, high, isFarAgain, few(2), few(2));
    }
}
