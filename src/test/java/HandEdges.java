import java.util.function.Supplier;

/** Boundary cases of what is told by hand and of STATUS: promises 28 to 34. */
final class HandEdges {
    private static final int NONE = Edge.NONE;
    private static final int TERMS = Edge.TERMS;
    private static final int NOT_THERE = 0;
    private static final int OUT_OF_BOUNDS = 1;
    private static final int IS_SO = 2;
    private static final int[] NO_INKS = {-1, 2, 3, 4, Integer.MIN_VALUE, Integer.MAX_VALUE};
    private static final Supplier<DotScreens> TWO = Edge.inks("s2,1lt30o4,5;s3,0d");

    private HandEdges() {
    }

    static void run() {
        screens();
        shapes();
        tones();
        offsets();
        swaps();
        drops();
        statuses();
        toldAnew();
    }

    /** The call answers so, no count of STATUS grows, and the object is then as a new one that is told so. */
    private static void changed(String text, String call, long answer, String then) {
        DotScreens x = Check.told(text);
        // all rows stand before the change
        Edge.same(x, Check.told(text), "before " + call + ": ");
        Edge.due(x, call, answer);
        Edge.dueRow(x, "status(#)", 0, 0, 0);
        Edge.same(x, Check.told(then), "after " + call + ": ");
    }

    private static void noSuchInk(String name, String behind) {
        for (int ink : NO_INKS) {
            Edge.refused(TWO, name + "(" + ink + behind + ")", NONE, NOT_THERE);
        }
        Edge.refused(DotScreens::new, name + "(0" + behind + ")", NONE, NOT_THERE);
        Edge.refused(Edge.inks("s1,0;s1,0;s1,0;s1,0"), name + "(4" + behind + ")", NONE, NOT_THERE);
    }

    private static void screens() {
        Edge.of(28, "A SCREEN is told anew: CELL as it was. ");
        changed("s2,1lt30o4,5;s3,0", "screen(0, 12, 0, 0, -12)", 5, "s12,0,0,-12lt30o4,5;s3,0");
        changed("s2,1;s12,0t99", "screen(1, 1, 0, 0, 1)", 144, "s2,1;s1,0t99");
        changed("s2,1;s3,0;s1,1;s4,0d", "screen(3, -12, 11, 12, -12)", 16, "s2,1;s3,0;s1,1;s-12,11,12,-12d");
        changed("s2,1", "screen(0, 12, -12, -12, 11)", 5, "s12,-12,-12,11");
        // the same grid by other pairs is another screen
        changed("s2,1", "screen(0, 2, 1, 1, -2)", 5, "s2,1,1,-2");
        changed("s2,1l", "screen(0, -1, 2, -2, -1)", 5, "s-1,2,-2,-1l");
        changed("s1,1", "screen(0, 1, 1, -1, 0)", 2, "s1,1,-1,0");

        Edge.of(28, "NONE: no such INK (STATUS 0), ");
        noSuchInk("screen", ", 1, 0, 0, 1");

        Edge.of(28, "out of bounds (1), ");
        for (int n : new int[] {-13, 13, Integer.MIN_VALUE, Integer.MAX_VALUE}) {
            Edge.refused(TWO, "screen(0, " + n + ", 1, 0, 1)", NONE, OUT_OF_BOUNDS);
            Edge.refused(TWO, "screen(0, 0, " + n + ", 1, 0)", NONE, OUT_OF_BOUNDS);
            Edge.refused(TWO, "screen(1, 0, 1, " + n + ", 0)", NONE, OUT_OF_BOUNDS);
            Edge.refused(TWO, "screen(1, 1, 0, 0, " + n + ")", NONE, OUT_OF_BOUNDS);
        }
        // what wraps around to a cell is none
        Edge.refused(TWO, "screen(0, 65537, 0, 0, 65537)", NONE, OUT_OF_BOUNDS);

        Edge.of(28, "it is so (2).");
        Edge.refused(TWO, "screen(0, 2, 1, -1, 2)", NONE, IS_SO);
        Edge.refused(TWO, "screen(1, 3, 0, 0, 3)", NONE, IS_SO);

        Edge.of(TERMS, "out of bounds (1: a CELL, too), ");
        for (String pairs : new String[] {"0, 0, 0, 0", "0, 0, 1, 1", "2, 4, 1, 2", "12, 12, 12, 12", "12, 1, -1, 12",
            "1, 12, 12, -1", "12, 12, -12, 12", "12, 12, 12, -12"}) {
            Edge.refused(TWO, "screen(0, " + pairs + ")", NONE, OUT_OF_BOUNDS);
        }
        changed("s2,1", "screen(0, 11, 1, -12, 12)", 5, "s11,1,-12,12");
        changed("s2,1", "screen(0, 11, 12, 12, 0)", 5, "s11,12,12,0");
        changed("s2,1", "screen(0, 0, 1, 1, 0)", 5, "s0,1,1,0");
    }

    private static void shapes() {
        Edge.of(29, "SPOT is told anew: as it was. ");
        for (int was = 0; was < 3; was++) {
            for (int spot = 0; spot < 3; spot++) {
                String then = "s5,2" + "rdl".charAt(spot);
                String text = "s5,2" + "rdl".charAt(was);
                if (was == spot) {
                    Edge.refused(Edge.inks(text), "shape(0, " + spot + ")", NONE, IS_SO);
                } else {
                    changed("s1,1;" + text + "t30o1,2", "shape(1, " + spot + ")", was, "s1,1;" + then + "t30o1,2");
                }
            }
        }
        Edge.of(29, "NONE: no such INK (STATUS 0), ");
        noSuchInk("shape", ", 0");
        Edge.of(29, "out of bounds (1), ");
        for (int spot : new int[] {-1, 3, Integer.MIN_VALUE, Integer.MAX_VALUE}) {
            Edge.refused(TWO, "shape(0, " + spot + ")", NONE, OUT_OF_BOUNDS);
            Edge.refused(TWO, "shape(1, " + spot + ")", NONE, OUT_OF_BOUNDS);
        }
        Edge.of(29, "it is so (2).");
        Edge.refused(TWO, "shape(0, 2)", NONE, IS_SO);
        Edge.refused(TWO, "shape(1, 1)", NONE, IS_SO);
    }

    private static void tones() {
        Edge.of(30, "TONE likewise.");
        changed("s5,2lo1,2;s1,1", "tone(0, 0)", 50, "s5,2lo1,2t0;s1,1");
        changed("s5,2lo1,2;s1,1t0", "tone(1, 100)", 0, "s5,2lo1,2;s1,1t100");
        changed("s5,2t100", "tone(0, 99)", 100, "s5,2t99");
        changed("s5,2t1", "tone(0, 2)", 1, "s5,2t2");
        noSuchInk("tone", ", 7");
        for (int tone : new int[] {-1, 101, Integer.MIN_VALUE, Integer.MAX_VALUE}) {
            Edge.refused(TWO, "tone(0, " + tone + ")", NONE, OUT_OF_BOUNDS);
            Edge.refused(TWO, "tone(1, " + tone + ")", NONE, OUT_OF_BOUNDS);
        }
        Edge.refused(TWO, "tone(0, 30)", NONE, IS_SO);
        Edge.refused(TWO, "tone(1, 50)", NONE, IS_SO);
        Edge.refused(Edge.inks("s2,1t0"), "tone(0, 0)", NONE, IS_SO);
        Edge.refused(Edge.inks("s2,1t100"), "tone(0, 100)", NONE, IS_SO);
    }

    private static void offsets() {
        Edge.of(31, "OFFSET is told anew: by how much it was moved, X and Y without sign added. ");
        changed("s5,2lt30;s1,1", "offset(0, 1, 0)", 1, "s5,2lt30o1,0;s1,1");
        changed("s5,2lt30;s1,1", "offset(1, 0, -1)", 1, "s5,2lt30;s1,1o0,-1");
        changed("s5,2o-99,99", "offset(0, 99, -99)", 396, "s5,2o99,-99");
        changed("s5,2o99,-99", "offset(0, -99, 99)", 396, "s5,2o-99,99");
        changed("s5,2o5,-6", "offset(0, -5, 6)", 22, "s5,2o-5,6");
        // moved by as much along X as back along Y
        changed("s5,2o5,5", "offset(0, 6, 4)", 2, "s5,2o6,4");
        // a move of the grid is a move
        changed("s5,2o5,2", "offset(0, 0, 0)", 7, "s5,2");

        Edge.of(31, "NONE: no such INK (STATUS 0), ");
        noSuchInk("offset", ", 7, 8");
        Edge.of(31, "out of bounds (1), ");
        for (int n : new int[] {-100, 100, Integer.MIN_VALUE, Integer.MAX_VALUE}) {
            Edge.refused(TWO, "offset(0, " + n + ", 0)", NONE, OUT_OF_BOUNDS);
            Edge.refused(TWO, "offset(0, 0, " + n + ")", NONE, OUT_OF_BOUNDS);
            Edge.refused(TWO, "offset(1, " + n + ", " + n + ")", NONE, OUT_OF_BOUNDS);
        }
        Edge.of(31, "it is so (2).");
        Edge.refused(TWO, "offset(0, 4, 5)", NONE, IS_SO);
        Edge.refused(TWO, "offset(1, 0, 0)", NONE, IS_SO);
        Edge.refused(Edge.inks("s2,1o-99,99"), "offset(0, -99, 99)", NONE, IS_SO);
    }

    private static void swaps() {
        String[] clause = {"s2,1lt30o4,5", "s3,0d", "s12,0t100o-9,9", "s1,4,-3,2t0"};
        Edge.of(32, "Two INKS change places. ");
        for (int i = 0; i < 4; i++) {
            for (int j = 0; j < 4; j++) {
                if (i != j) {
                    String[] then = clause.clone();
                    then[i] = clause[j];
                    then[j] = clause[i];
                    changed(String.join(";", clause), "swap(" + i + ", " + j + ")", 1, String.join(";", then));
                }
            }
        }
        // two that are told alike are two
        changed("s2,1;s2,1", "swap(0, 1)", 1, "s2,1;s2,1");

        Edge.of(32, "False: no such ones (STATUS 0), ");
        for (int ink : NO_INKS) {
            Edge.refused(TWO, "swap(0, " + ink + ")", 0, NOT_THERE);
            Edge.refused(TWO, "swap(" + ink + ", 1)", 0, NOT_THERE);
        }
        Edge.refused(TWO, "swap(-1, 2)", 0, NOT_THERE);
        Edge.refused(Edge.inks("s2,1"), "swap(0, 1)", 0, NOT_THERE);
        Edge.refused(Edge.inks(String.join(";", clause)), "swap(3, 4)", 0, NOT_THERE);
        Edge.refused(DotScreens::new, "swap(0, 1)", 0, NOT_THERE);

        Edge.of(32, "both are one (2).");
        Edge.refused(TWO, "swap(0, 0)", 0, IS_SO);
        Edge.refused(TWO, "swap(1, 1)", 0, IS_SO);
        Edge.refused(Edge.inks("s2,1"), "swap(0, 0)", 0, IS_SO);
    }

    private static void drops() {
        String[] clause = {"s2,1lt30o4,5", "s3,0d", "s12,0t100o-9,9", "s1,4,-3,2t0"};
        Edge.of(33, "An INK goes: how many are left. ");
        DotScreens x = Check.told(String.join(";", clause));
        for (int left = 3; left >= 0; left--) {
            Edge.due(x, "drop(0)", left);
            Edge.due(x, "count(0)", left);
        }
        Edge.same(x, new DotScreens(), "all gone: ");
        // what is told anew takes nothing of those that went
        Check.feed(x, "s1,1;s1,2;s1,3;s2,0");
        Edge.due(x, "text()", 4);
        Edge.same(x, Check.told("s1,1;s1,2;s1,3;s2,0"), "told again: ");

        Edge.of(TERMS, "an INK goes (those behind it come up). ");
        for (int gone = 0; gone < 4; gone++) {
            StringBuilder then = new StringBuilder();
            for (int i = 0; i < 4; i++) {
                if (i != gone) {
                    then.append(then.length() > 0 ? ";" : "").append(clause[i]);
                }
            }
            changed(String.join(";", clause), "drop(" + gone + ")", 3, then.toString());
        }
        changed("s2,1;s3,0", "drop(1)", 1, "s2,1");
        changed("s2,1", "drop(0)", 0, "");

        Edge.of(33, "NONE: no such one (STATUS 0).");
        noSuchInk("drop", "");
    }

    private static void statuses() {
        Edge.of(34, "STATUS. ");
        Edge.dueRow(new DotScreens(), "status(#)", 0, 0, 0, NONE);
        DotScreens x = Check.told("s2,1");
        int[] want = new int[3];
        String[] calls = {"tone(1, 5)", "screen(0, 13, 0, 0, 1)", "shape(0, 0)", "swap(0, 1)", "offset(0, 100, 0)",
            "swap(0, 0)", "drop(1)", "tone(0, 101)", "tone(0, 50)", "offset(2, 0, 0)", "shape(0, 3)", "offset(0, 0, 0)",
            "shape(-1, 0)", "screen(0, 0, 0, 0, 0)", "screen(0, 2, 1, -1, 2)", "screen(3, 2, 1, -1, 2)"};
        for (int i = 0; i < calls.length; i++) {
            want[i % 3]++;
            Ask.of(x, calls[i]);
            Edge.dueRow(x, "status(#)", want[0], want[1], want[2]);
        }
        // a text that tells other inks leaves what was refused
        Check.feed(x, "s1,1");
        Edge.due(x, "text()", 1);
        Edge.dueRow(x, "status(#)", want[0], want[1], want[2]);

        Edge.of(34, "NONE: no such what.");
        for (int what : new int[] {-1, 3, Integer.MIN_VALUE, Integer.MAX_VALUE}) {
            Edge.refused(TWO, "status(" + what + ")", NONE);
            Edge.refused(DotScreens::new, "status(" + what + ")", NONE);
        }

        Edge.of(TERMS, "STATUS: how many of these were refused as there was no such one (0), ");
        // every call of an object may be one of these
        DotScreens most = new DotScreens();
        for (int i = 1; i < Edge.CALLS_MOST; i++) {
            most.drop(0);
        }
        Edge.due(most, "status(0)", Edge.CALLS_MOST - 1);
        // what asks alone is not one of these, nor is what the tape refuses
        DotScreens none = Check.told("s2,1");
        for (String call : new String[] {"feed(-1, -1, -1, -1, -1)", "text()", "fault()", "end(-1)", "ink(1, 0)",
            "brick(1, 0)", "home(0, 10000, 0, 0)", "spot(1, 0, 0)", "rank(0, 0, 10000)", "ranked(0, 5, 0)", "inked(1, 0, 0)",
            "dots(0, 6)", "grown(0, 2)", "slope(1, 0)", "turn(0, 1, 0)", "beat(0, 0, 0)", "far(0, 0, 0)", "common(2, 0)",
            "inCell(1, 1)", "overlay(10000, 0)", "window(0, 0, 33, 1, 0, 0)", "densest(0, 0, 0, 1)", "next(0, 0, 16)",
            "choose(4, 1, 2, true, 0, 0)", "bestTurn(0, 0)", "most(7)", "count(2)", "status(3)"}) {
            Ask.of(none, call);
        }
        Edge.dueRow(none, "status(#)", 0, 0, 0);

        Edge.of(TERMS, "it is so (2); ");
        Edge.refused(TWO, "swap(1, 1)", 0, IS_SO);
        Edge.refused(TWO, "screen(0, 2, 1, -1, 2)", NONE, IS_SO);

        Edge.of(TERMS, "of several the first.");
        Edge.refused(TWO, "screen(2, 13, 0, 0, 1)", NONE, NOT_THERE);
        Edge.refused(TWO, "screen(-1, 0, 0, 0, 0)", NONE, NOT_THERE);
        Edge.refused(TWO, "shape(2, 3)", NONE, NOT_THERE);
        Edge.refused(TWO, "tone(2, 101)", NONE, NOT_THERE);
        Edge.refused(TWO, "offset(2, 100, -100)", NONE, NOT_THERE);
        Edge.refused(TWO, "swap(2, 2)", 0, NOT_THERE);
        Edge.refused(TWO, "swap(-1, -1)", 0, NOT_THERE);
        Edge.refused(DotScreens::new, "swap(0, 0)", 0, NOT_THERE);
    }

    private static void toldAnew() {
        Edge.of(TERMS, "By hand: an INK's SCREEN, SPOT, TONE, OFFSET are told anew, ");
        DotScreens x = Edge.inksAndTape("s2,1;s3,0", "s7,7").get();
        Edge.due(x, "screen(1, 4, 1, -2, 5)", 9);
        Edge.due(x, "shape(1, 2)", 0);
        Edge.due(x, "tone(1, 77)", 50);
        Edge.due(x, "offset(1, -3, 8)", 11);
        Edge.same(x, Edge.inksAndTape("s2,1;s4,1,-2,5lt77o-3,8", "s7,7").get(), "all told anew: ");
        Edge.of(TERMS, "two INKS change places, ");
        Edge.due(x, "swap(1, 0)", 1);
        Edge.same(x, Edge.inksAndTape("s4,1,-2,5lt77o-3,8;s2,1", "s7,7").get(), "swapped: ");
    }
}
