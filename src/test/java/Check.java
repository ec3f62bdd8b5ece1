import java.util.NoSuchElementException;

/** Counts answers that are not as due, and feeds texts. */
final class Check {
    private static int asked = 0;
    private static int wrong = 0;

    private Check() {
    }

    static void due(String call, long got, long want) {
        asked++;
        if (got != want) {
            wrong++;
            if (wrong <= 50) {
                System.out.println(call + " answered " + got + ", due is " + want);
            }
        }
    }

    static void due(String call, boolean got, boolean want) {
        due(call, got ? 1 : 0, want ? 1 : 0);
    }

    static void dueNoInk(DotScreens x, int ink, int what) {
        int thrown = 0;
        try {
            x.ink(ink, what);
        } catch (NoSuchElementException e) {
            thrown = 1;
        }
        due("ink(" + ink + ", " + what + ") throws", thrown, 1);
    }

    /** Feeds a text in twenties; what the last feed answered. */
    static int feed(DotScreens x, String text) {
        int answer = x.count(1);
        for (int i = 0; i < text.length(); i += 20) {
            int[] words = new int[5];
            for (int j = 0; j < 20; j++) {
                int sign = i + j < text.length() ? text.charAt(i + j) & 255 : 0;
                words[j / 4] |= sign << 24 - j % 4 * 8;
            }
            answer = x.feed(words[0], words[1], words[2], words[3], words[4]);
        }
        return answer;
    }

    /** A new object with the inks of a text. */
    static DotScreens told(String text) {
        DotScreens x = new DotScreens();
        feed(x, text);
        if (x.text() == DotScreens.NONE) {
            due("text of " + text, DotScreens.NONE, 0);
        }
        return x;
    }

    static void end() {
        System.out.println(asked + " answers, " + wrong + " not as due");
        if (wrong != 0) {
            System.exit(1);
        }
    }
}
