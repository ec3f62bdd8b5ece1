import java.util.ArrayList;
import java.util.List;
import java.util.function.Supplier;

/** A test of one boundary case: it begins with the document's words that it is for. */
final class Edge {
    static final int NONE = DotScreens.NONE;
    static final int HIDDEN = DotScreens.HIDDEN;
    static final int TERMS = Words.TERMS;
    /** No count of STATUS grows. */
    static final int NO_COUNT = -1;
    /** An object serves for so many calls. */
    static final int CALLS_MOST = 512;

    /** What setups leave on the tape, so that a refused call that touches it is seen. */
    private static final String LEFT_OVER = "s5,4,-3,2lt9o1,-1;s1,1";

    private static final Words WORDS = new Words();
    private static final List<String> QUESTIONS = questions();
    private static String about = "";

    private Edge() {
    }

    /** Begins a test for words of a promise (or of the Terms). */
    static void of(int section, String words) {
        about = (section == TERMS ? "Terms" : "Promise " + section) + ", '" + words + "': ";
        Check.due(about + "stands in the document", WORDS.quote(section, words), true);
    }

    /** Every sentence of the promises and of the Terms has a test. */
    static void allQuoted() {
        for (String words : WORDS.unquoted()) {
            Check.due("no test for " + words, 1, 0);
        }
    }

    static void due(DotScreens x, String call, long want) {
        Check.due(about + call, Ask.of(x, call), want);
    }

    /** The same call for 0, 1, 2 .. in place of its #. */
    static void dueRow(DotScreens x, String call, long... want) {
        for (int i = 0; i < want.length; i++) {
            due(x, call.replace("#", Integer.toString(i)), want[i]);
        }
    }

    static void due(String what, long got, long want) {
        Check.due(about + what, got, want);
    }

    /** The FAULT of a text. */
    static void fault(String text, int want) {
        DotScreens x = tape(text).get();
        Check.due(about + "fault of '" + text + "'", x.fault(), want);
    }

    /** An object with these bytes on its tape and nothing else. */
    static Supplier<DotScreens> tape(String text) {
        return () -> {
            DotScreens x = new DotScreens();
            Check.feed(x, text);
            return x;
        };
    }

    /** An object with the inks of a text, with another text on its tape and some calls refused before. */
    static Supplier<DotScreens> inks(String text) {
        return inksAndTape(text, LEFT_OVER);
    }

    static Supplier<DotScreens> inksAndTape(String text, String tape) {
        return () -> {
            DotScreens x = Check.told(text);
            Check.feed(x, tape);
            x.drop(-1);
            for (int i = 0; i < 2 && x.count(0) > 0; i++) {
                x.shape(0, 3);
                x.swap(0, 0);
            }
            return x;
        };
    }

    /** A call that only asks: no count grows by it, and nothing else changes. */
    static void changesNothing(Supplier<DotScreens> make, String call, long answer) {
        refused(make, call, answer, NO_COUNT);
    }

    /** No count grows by the call. */
    static void refused(Supplier<DotScreens> make, String call, long answer) {
        refused(make, call, answer, NO_COUNT);
    }

    /**
     * The call is refused: it answers so, one count of STATUS grows by one (or none does), and nothing else changes:
     * a twin of the object that was not asked answers the same.
     */
    static void refused(Supplier<DotScreens> make, String call, long answer, int grows) {
        DotScreens asked = make.get();
        DotScreens twin = make.get();
        long[] before = {asked.status(0), asked.status(1), asked.status(2)};
        due(asked, call, answer);
        for (int i = 0; i < 3; i++) {
            due("status(" + i + ") after " + call, asked.status(i), before[i] + (i == grows ? 1 : 0));
        }
        same(asked, twin, "after " + call + ": ");
        // what the tape has is seen by what it tells alone
        due("text() after " + call, asked.text(), twin.text());
        same(asked, twin, "after " + call + " and text(): ");
    }

    static void same(DotScreens x, DotScreens y, String when) {
        for (String question : QUESTIONS) {
            Check.due(about + when + question, Ask.of(x, question), Ask.of(y, question));
        }
    }

    /** What is asked to see all of an object, STATUS aside: few enough to be asked twice within an object's calls. */
    private static List<String> questions() {
        List<String> all = new ArrayList<>();
        for (int i = 0; i < 4; i++) {
            row(all, "ink(" + i + ", #)", 10);
            row(all, "brick(" + i + ", #)", 3);
            row(all, "home(" + i + ", 7, -5, #)", 2);
            row(all, "reduced(" + i + ", #)", 4);
            row(all, "ranked(" + i + ", 1, #)", 2);
            row(all, "grown(" + i + ", #)", 2);
            row(all, "slope(" + i + ", #)", 2);
            row(all, "bestTurn(" + i + ", #)", 2);
            all.addAll(List.of("spot(" + i + ", 2, 1)", "rank(" + i + ", 2, 1)", "inked(" + i + ", -4, 3)",
                    "dots(" + i + ", 2)", "far(" + i + ", 0, 0)", "inCell(3, " + i + ")"));
        }
        row(all, "turn(0, 1, #)", 2);
        row(all, "beat(0, 1, #)", 5);
        row(all, "common(3, #)", 9);
        row(all, "overlay(#, 3)", 4);
        row(all, "choose(2, 5, 25, true, #, 0)", 2);
        row(all, "choose(2, 5, 25, true, #, 1)", 2);
        row(all, "most(#)", 7);
        row(all, "count(#)", 2);
        all.addAll(List.of("common(15, 8)", "window(-3, 2, 8, 8, 0, 1)", "window(-3, 2, 8, 8, 1, 3)",
                "densest(-3, 2, 8, 8)", "next(4, -2, 3)", "fault()"));
        return all;
    }

    private static void row(List<String> all, String call, int n) {
        for (int i = 0; i < n; i++) {
            all.add(call.replace("#", Integer.toString(i)));
        }
    }

    /** Twice all questions and what a setup asks stay within the calls of an object. */
    static void questionsAreFew() {
        Check.due("questions", 2 * QUESTIONS.size() + 40 <= CALLS_MOST, true);
    }
}
