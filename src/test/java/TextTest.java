import java.util.Random;
import java.util.regex.Matcher;
import java.util.regex.Pattern;

/** Promises 1 to 6 and 36: the tape, its fault, what a text tells. */
public final class TextTest {
    private static final int NONE = DotScreens.NONE;

    public static void main(String[] args) {
        newObject();
        feedAndEnd();
        faultsByHand();
        faultsByPattern();
        textTells();
        textRefused();
        inkAnswers();
        Check.end();
    }

    private static void newObject() {
        DotScreens x = new DotScreens();
        Check.due("count(0)", x.count(0), 0);
        Check.due("count(1)", x.count(1), 0);
        Check.due("count(2)", x.count(2), DotScreens.HIDDEN);
        Check.due("count(-1)", x.count(-1), DotScreens.HIDDEN);
        Check.dueNoInk(x, 0, 0);
        for (int what = 0; what < 3; what++) {
            Check.due("status", x.status(what), 0);
        }
    }

    private static void feedAndEnd() {
        DotScreens x = new DotScreens();
        Check.due("zeros", x.feed(0, 0, 0, 0, 0), 0);
        Check.due("holes", x.feed(0x73000031, 0x002c0000, 0, 0, 0x00000032), 4);
        Check.due("fault", x.fault(), NONE);
        Check.due("end(5)", x.end(5), false);
        Check.due("end(-1)", x.end(-1), false);
        Check.due("count", x.count(1), 4);
        Check.due("end(4)", x.end(4), true);
        Check.due("end(3)", x.end(3), true);
        Check.due("count", x.count(1), 3);
        Check.due("fault", x.fault(), 3);
        Check.due("high bytes count", x.feed(0xff80ffff, -1, 0, 0, 0x80000000), 12);
        Check.due("high bytes are wrong", x.fault(), 3);
        Check.due("end(0)", x.end(0), true);
        for (int i = 1; i <= 8; i++) {
            Check.due("full", x.feed(0x20202020, 0x20202020, 0x20202020, 0x20202020, 0x20202020), 20 * i);
        }
        Check.due("one more", x.feed(0, 0, 0, 0, 32), NONE);
        Check.due("none more", x.feed(0, 0, 0, 0, 0), 160);
        Check.due("count", x.count(1), 160);
        Check.due("blanks alone", x.fault(), NONE);
        Check.due("end(159)", x.end(159), true);
        Check.due("two more", x.feed(0x20200000, 0, 0, 0, 0), NONE);
        Check.due("nothing of a refused feed came", x.count(1), 159);
        Check.due("one more", x.feed(0, 0, 0x00200000, 0, 0), 160);
        Check.due("text", x.text(), 0);
        eachNumberCounts();
    }

    /** Bytes of each of the five numbers fill the tape, in their order. */
    private static void eachNumberCounts() {
        for (int place = 0; place < 20; place++) {
            int[] words = new int[5];
            words[place / 4] = 32 << 24 - place % 4 * 8;
            DotScreens x = new DotScreens();
            Check.feed(x, " ".repeat(159));
            Check.due("to 160", x.feed(words[0], words[1], words[2], words[3], words[4]), 160);
            Check.due("beyond", x.feed(words[0], words[1], words[2], words[3], words[4]), NONE);
            Check.due("count", x.count(1), 160);
        }
        DotScreens y = new DotScreens();
        Check.due("in order", y.feed(0x73000000, 0x00310000, 0x00002c00, 0x00000031, 0x3a000000), 5);
        Check.due("in order", y.fault(), 4);
    }

    private static void fault(String text, int want) {
        DotScreens x = new DotScreens();
        Check.feed(x, text);
        Check.due("fault of '" + text + "'", x.fault(), want);
        Check.due("tape after fault", x.count(1), text.length());
    }

    private static void faultsByHand() {
        fault("", NONE);
        fault("   ", NONE);
        fault(";", 0);
        fault(" ; ", 1);
        fault("S1,1", 0);
        fault("s1,1", NONE);
        fault("s1,1 ", NONE);
        fault("s-12,12,12,-12", NONE);
        fault("s13", 2);
        fault("s-13", 3);
        fault("s-99,1", 3);
        fault("s00,-0", NONE);
        fault("s001,1", 3);
        // a digit too many is wrong itself, whatever stands ahead of it
        fault("s130,1", 3);
        fault("s-991,1", 4);
        fault("s1,1t1010", 8);
        fault("s1,1t0100", 8);
        fault("s1,1t100", NONE);
        fault("s1,1t101", 7);
        fault("s1,1t000", NONE);
        fault("s1,1t-5", 5);
        fault("s1,1o-99,99", NONE);
        fault("s1,1o100,1", 7);
        fault("s1,1o1", 6);
        fault("s1,1o1,", 7);
        fault("s1,1o1,2,3", 8);
        fault("s1 2,1", 3);
        fault("s- 1,1", 2);
        fault("s--1,1", 2);
        fault("s-", 2);
        fault("s1,1,1", 6);
        fault("s1,1,1,", 7);
        fault("s1,1,1r", 6);
        fault("s1,1,1,1,1", 8);
        fault("s1,1rr", 5);
        fault("s1,1rl", 5);
        fault("s1,1dt5d", 7);
        fault("s1,1t5t", 6);
        fault("s1,1o1,1o", 8);
        fault("s1,1o1,1t5l", NONE);
        fault("s1,1lo1,1 t 5 ; s 2 , 3 , -1 , 0", NONE);
        fault("s1,1;", 5);
        fault("s1,1; ", 6);
        fault("s1,1;;", 5);
        fault("s1,1s", 4);
        fault("s1,1;s1,1;s1,1;s1,1", NONE);
        fault("s1,1;s1,1;s1,1;s1,1;", 20);
        fault("s1,1;s1,1;s1,1;s1,1;x", 20);
        fault("s1,1;s1,1;s1,1;s1,1;  s", 22);
        // clauses that are left out count as clauses
        fault("s0,0;s0,0;s0,0;s0,0;s1,1", 20);
        fault("s1,1" + (char) 200, 4);
        fault("s1,1\n", 4);
        fault("s1,1\t", 4);
        fault("t50", 0);
    }

    private static String number(String digits) {
        return "-?(?:" + digits + ") *";
    }

    private static Pattern pattern(String pair, String tone) {
        String r = "[rdl] *";
        String t = "t *" + tone + " *";
        String o = "o *" + number("[0-9]{1,2}") + ", *" + number("[0-9]{1,2}");
        StringBuilder letters = new StringBuilder();
        String[] all = {r, t, o};
        for (int i = 0; i < 3; i++) {
            for (int j = 0; j < 3; j++) {
                if (i != j) {
                    String last = all[3 - i - j];
                    letters.append("(?:").append(all[i]).append(")(?:(?:").append(all[j]).append(")(?:")
                            .append(last).append(")?)?|");
                }
            }
        }
        String clause = "s *" + number(pair) + ", *" + number(pair)
                + "(?:, *" + number(pair) + ", *" + number(pair) + ")?(?:" + letters + ")";
        return Pattern.compile(" *(?:" + clause + "(?:; *" + clause + "){0,3})?");
    }

    private static final Pattern STRICT = pattern("0?[0-9]|1[0-2]", "(?:100|0?[0-9]{1,2})");
    private static final Pattern LOOSE = pattern("[0-9]{1,2}", "[0-9]{1,3}");

    /** The first byte behind which no text of the pattern goes on; a fifth clause is wrong at its s. */
    private static int firstWrong(Pattern pattern, String text) {
        for (int i = 1; i <= text.length(); i++) {
            Matcher m = pattern.matcher(text.substring(0, i));
            if (!m.matches() && !m.hitEnd()) {
                return i - 1;
            }
        }
        return pattern.matcher(text).matches() ? NONE : text.length();
    }

    private static int faultOf(String text) {
        int strict = firstWrong(STRICT, text);
        int loose = firstWrong(LOOSE, text);
        boolean tooMany = strict >= 0 && loose == strict + 1 && loose < text.length()
                && Character.isDigit(text.charAt(loose)) && Character.isDigit(text.charAt(strict));
        int fault = tooMany ? loose : strict;
        if (fault >= 0 && fault < text.length() && text.charAt(fault) == ';') {
            long ahead = text.substring(0, fault).chars().filter(c -> c == ';').count();
            if (ahead == 3 && firstWrong(STRICT, text.substring(0, fault)) == NONE) {
                int i = fault + 1;
                while (i < text.length() && text.charAt(i) == ' ') {
                    i++;
                }
                return i;
            }
        }
        return fault;
    }

    private static String randomNumber(Random random, int most) {
        int n = random.nextInt(most + 1);
        String sign = random.nextInt(3) == 0 ? "-" : "";
        return sign + (n < 10 && random.nextInt(6) == 0 ? "0" : "") + n;
    }

    private static String randomText(Random random) {
        StringBuilder text = new StringBuilder();
        int clauses = random.nextInt(6);
        for (int i = 0; i < clauses; i++) {
            if (i > 0) {
                text.append(';');
            }
            text.append('s').append(randomNumber(random, 12)).append(',').append(randomNumber(random, 12));
            if (random.nextInt(2) == 0) {
                text.append(',').append(randomNumber(random, 12)).append(',').append(randomNumber(random, 12));
            }
            for (int j = random.nextInt(4); j > 0; j--) {
                switch (random.nextInt(3)) {
                    case 0: text.append("rdl".charAt(random.nextInt(3))); break;
                    case 1: text.append('t').append(random.nextInt(random.nextInt(20) == 0 ? 300 : 101)); break;
                    default: text.append('o').append(randomNumber(random, 99)).append(',')
                            .append(randomNumber(random, 99));
                }
            }
        }
        String signs = "s,;-rdlto 0123459  x";
        for (int j = random.nextInt(3); j > 0; j--) {
            int at = random.nextInt(text.length() + 1);
            if (random.nextInt(2) == 0 && at < text.length()) {
                text.deleteCharAt(at);
            } else {
                text.insert(at, signs.charAt(random.nextInt(signs.length())));
            }
        }
        return text.length() > 160 ? text.substring(0, 160) : text.toString();
    }

    private static void faultsByPattern() {
        Random random = new Random(1);
        for (int i = 0; i < 20000; i++) {
            String text = randomText(random);
            fault(text, faultOf(text));
        }
    }

    private static void inkIs(DotScreens x, int ink, int... want) {
        for (int what = 0; what < want.length; what++) {
            Check.due("ink(" + ink + ", " + what + ")", x.ink(ink, what), want[what]);
        }
    }

    private static void textTells() {
        DotScreens x = new DotScreens();
        Check.feed(x, "s3,-1;s0,0dt7;s4,1,-2,5l t 100 o -99 , 98;s12,0,0,12t0");
        Check.due("text", x.text(), 3);
        Check.due("the tape is empty", x.count(1), 0);
        Check.due("count(0)", x.count(0), 3);
        inkIs(x, 0, 3, -1, 1, 3, 10, 0, 50, 5, 0, 0);
        inkIs(x, 1, 4, 1, -2, 5, 22, 2, 100, 22, -99, 98);
        inkIs(x, 2, 12, 0, 0, 12, 144, 0, 0, 0, 0, 0);
        Check.feed(x, "s1,0,0,-1 d");
        Check.due("text", x.text(), 1);
        inkIs(x, 0, 1, 0, 0, -1, 1, 1, 50, 1, 0, 0);
        Check.dueNoInk(x, 1, 0);
        Check.feed(x, "s12,1");
        Check.due("a cell of 145", x.text(), 0);
        Check.due("none left", x.count(0), 0);
        Check.feed(x, "s1,1;s1,2;s1,3;s1,4o1,2t3l");
        Check.due("text", x.text(), 4);
        inkIs(x, 3, 1, 4, -4, 1, 17, 2, 3, 1, 1, 2);
        Check.due("an empty text", x.text(), 0);
        Check.due("all are gone", x.count(0), 0);
    }

    private static void textRefused() {
        DotScreens x = Check.told("s2,1t30");
        Check.feed(x, "s3,3;x");
        Check.due("text", x.text(), NONE);
        Check.due("the tape stays", x.count(1), 6);
        inkIs(x, 0, 2, 1, -1, 2, 5, 0, 30, 2);
        Check.due("count", x.count(0), 1);
        Check.due("end", x.end(4), true);
        Check.due("text", x.text(), 1);
        inkIs(x, 0, 3, 3, -3, 3, 18, 0, 50, 9);
    }

    private static void inkAnswers() {
        DotScreens x = Check.told("s1,1;s1,1");
        Check.dueNoInk(x, 2, 0);
        Check.dueNoInk(x, -1, 0);
        Check.dueNoInk(x, 0, -1);
        Check.dueNoInk(x, 0, 10);
        Check.dueNoInk(x, Integer.MIN_VALUE, Integer.MAX_VALUE);
        for (int tone = 0; tone <= 100; tone++) {
            DotScreens y = Check.told("s3,2t" + tone);
            Check.due("LEVEL", y.ink(0, 7), (13 * tone + 50) / 100);
        }
    }
}
