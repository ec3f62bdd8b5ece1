import java.util.function.Supplier;

/** Boundary cases of screens chosen: promises 26 and 27. */
final class ChoiceEdges {
    private static final int NONE = Edge.NONE;
    private static final int TERMS = Edge.TERMS;
    private static final int[] EXTREMES = {Integer.MIN_VALUE, Integer.MAX_VALUE};

    private ChoiceEdges() {
    }

    static void run() {
        squares();
        spans();
        best();
        chooseRefused();
        bestTurns();
        bestTurnRefused();
    }

    /** The choice told: A, B of the first one, of the second one .. */
    private static void choice(String told, int... want) {
        DotScreens x = new DotScreens();
        for (int i = 0; i < want.length / 2; i++) {
            Edge.due(x, "choose(" + told + ", " + i + ", 0)", want[2 * i]);
            Edge.due(x, "choose(" + told + ", " + i + ", 1)", want[2 * i + 1]);
        }
        Edge.due(x, "choose(" + told + ", " + want.length / 2 + ", 0)", NONE);
    }

    private static void none(String told) {
        Edge.refused(DotScreens::new, "choose(" + told + ", 0, 0)", NONE);
        Edge.refused(Edge.inks("s2,1;s3,0"), "choose(" + told + ", 1, 1)", NONE);
    }

    private static void squares() {
        Edge.of(TERMS, "CHOOSE n (2, 3) SCREENS of all squares A, B (A 1 .. 12, B 0 .. 12, V -B, A; ");
        choice("2, 1, 2, true", 1, 0, 1, 1);
        choice("3, 1, 4, true", 1, 0, 1, 1, 2, 0);
        choice("3, 1, 4, false", 1, 0, 1, 1, 2, 0);
        choice("3, 25, 25, true", 3, 4, 4, 3, 5, 0);
        choice("3, 137, 144, true", 4, 11, 11, 4, 12, 0);
        choice("2, 122, 122, true", 1, 11, 11, 1);
        // no 0, A stands beside A, 0
        none("2, 1, 1, true");
        none("2, 144, 144, true");
        none("3, 8, 9, true");

        Edge.of(TERMS, "unlike ones, ");
        choice("2, 5, 5, true", 1, 2, 2, 1);
        choice("2, 5, 5, false", 1, 2, 2, 1);
        none("3, 5, 5, true");
        none("2, 9, 9, false");
    }

    private static void spans() {
        Edge.of(TERMS, "CELL from LOW to HIGH, these 1 .. 144, HIGH less LOW 20 at most), ");
        choice("2, 4, 5, false", 1, 2, 2, 1);
        choice("3, 4, 5, false", 2, 0, 1, 2, 2, 1);
        none("3, 5, 7, false");
        none("2, 1, 22, true");
        none("2, 123, 144, true");
        none("3, 100, 121, false");
        none("2, 1, 144, true");
        none("2, 0, 9, true");
        none("2, 0, 20, true");
        none("2, -1, 5, true");
        none("2, 130, 145, true");
        none("2, 137, 145, true");
        none("2, 145, 145, true");
        none("2, 5, 0, true");
        none("2, 9, 5, true");
        none("2, 144, 1, true");
        for (int n : EXTREMES) {
            none("2, " + n + ", 9, true");
            none("2, 5, " + n + ", true");
            none("2, " + n + ", " + n + ", true");
        }
        none("2, 1, -2147483648, true");
        none("2, -2147483648, 2147483647, true");
        // twenty is not too much, at both ends
        for (int low : new int[] {1, 124}) {
            DotScreens x = new DotScreens();
            String span = low + ", " + (low + 20);
            Edge.due("20 from " + low, Ask.of(x, "choose(2, " + span + ", true, 0, 0)") > 0 ? 1 : 0, 1);
            Edge.due("20 from " + low, Ask.of(x, "choose(3, " + span + ", false, 2, 0)") > 0 ? 1 : 0, 1);
        }
        // no span has more squares than these two: 20
        choice("2, 65, 85, true", 1, 9, 2, 9);
        choice("2, 65, 85, false", 4, 7, 8, 2);
        choice("3, 65, 85, true", 6, 6, 6, 7, 7, 6);
        choice("3, 65, 85, false", 4, 7, 7, 4, 9, 0);
        choice("2, 97, 117, true", 3, 10, 4, 10);
        choice("2, 97, 117, false", 7, 7, 10, 0);
        choice("3, 97, 117, true", 6, 8, 7, 8, 6, 9);
        choice("3, 97, 117, false", 4, 9, 8, 6, 10, 1);
    }

    private static void best() {
        // of 5 to 9: 1, 2 and 2, 1 are 25/2 far, either and 2, 2 are 40, either and 3, 0 are 45/2, 2, 2 and 3, 0 are 72/5
        Edge.of(TERMS, "FAR: so that the least FAR of two of them is greatest; ");
        choice("2, 5, 9, true", 1, 2, 2, 2);
        choice("3, 5, 9, true", 1, 2, 2, 2, 3, 0);
        choice("2, 8, 9, true", 2, 2, 3, 0);
        choice("2, 5, 8, true", 1, 2, 2, 2);
        // each of the three couples may be the nearest
        choice("3, 4, 8, true", 2, 0, 1, 2, 2, 1);
        choice("3, 6, 10, true", 2, 2, 1, 3, 3, 1);

        Edge.of(TERMS, "or FINE: so that the greatest is least; ");
        choice("2, 5, 9, false", 1, 2, 2, 1);
        choice("3, 5, 9, false", 1, 2, 2, 1, 3, 0);
        choice("2, 8, 9, false", 2, 2, 3, 0);
        choice("3, 2, 5, false", 1, 1, 1, 2, 2, 1);

        Edge.of(TERMS, "in a row by CELL, then A; of several the first row so. ");
        choice("3, 5, 8, true", 1, 2, 2, 1, 2, 2);
        choice("2, 5, 9, true", 1, 2, 2, 2);
        choice("3, 9, 10, false", 3, 0, 1, 3, 3, 1);
        choice("2, 9, 10, true", 3, 0, 1, 3);
        choice("3, 65, 65, true", 1, 8, 4, 7, 7, 4);
        // asked in turn, each number changed alone: no answer is that of what was asked before
        DotScreens x = new DotScreens();
        Edge.due(x, "choose(2, 5, 9, true, 1, 0)", 2);
        Edge.due(x, "choose(2, 5, 9, true, 1, 1)", 2);
        Edge.due(x, "choose(2, 5, 9, false, 1, 1)", 1);
        Edge.due(x, "choose(3, 5, 9, false, 1, 1)", 1);
        Edge.due(x, "choose(3, 5, 9, false, 2, 0)", 3);
        Edge.due(x, "choose(3, 5, 8, false, 2, 0)", 2);
        Edge.due(x, "choose(3, 4, 5, false, 2, 0)", 2);
        Edge.due(x, "choose(3, 4, 5, false, 0, 1)", 0);
        Edge.due(x, "choose(3, 5, 5, false, 0, 1)", NONE);
        Edge.due(x, "choose(2, 5, 5, false, 0, 1)", 2);

        Edge.of(26, "CHOOSE: of the i-th SCREEN A (what 0), B (1). ");
        choice("3, 25, 25, true", 3, 4, 4, 3, 5, 0);
    }

    private static void chooseRefused() {
        Supplier<DotScreens> inks = Edge.inks("s2,1;s3,0");
        Edge.of(26, "NONE: no such ones, ");
        for (String told : new String[] {"2, 5, 9, true, -1, 0", "2, 5, 9, true, 2, 0", "3, 5, 9, true, 3, 0",
            "3, 5, 9, true, -1, 0", "2, 5, 9, true, 0, -1", "2, 5, 9, true, 0, 2", "2, 5, 9, true, 2147483647, 0",
            "2, 5, 9, true, -2147483648, 0", "2, 5, 9, true, 0, 2147483647", "2, 5, 9, true, 0, -2147483648"}) {
            Edge.refused(inks, "choose(" + told + ")", NONE);
            Edge.refused(DotScreens::new, "choose(" + told + ")", NONE);
        }
        DotScreens x = new DotScreens();
        Edge.due(x, "choose(3, 5, 9, true, 2, 0)", 3);
        Edge.due(x, "choose(2, 5, 9, true, 2, 0)", NONE);
        Edge.due(x, "choose(2, 5, 9, true, 1, 0)", 2);

        Edge.of(26, "out of bounds, ");
        for (int n : new int[] {1, 4, 0, -1, Integer.MIN_VALUE, Integer.MAX_VALUE}) {
            Edge.refused(inks, "choose(" + n + ", 5, 9, true, 0, 0)", NONE);
            Edge.refused(DotScreens::new, "choose(" + n + ", 5, 9, false, 0, 0)", NONE);
        }
        none("2, 0, 9, false");
        none("2, 130, 145, false");
        none("2, 1, 22, false");

        Edge.of(26, "there are fewer than n.");
        none("2, 3, 3, true");
        none("2, 6, 7, true");
        none("2, 1, 1, false");
        none("2, 138, 144, true");
        none("3, 1, 2, true");
        none("3, 1, 3, false");
        choice("2, 1, 3, false", 1, 0, 1, 1);
        choice("3, 1, 4, false", 1, 0, 1, 1, 2, 0);
    }

    private static void bestTurn(String text, int a, int b) {
        Edge.dueRow(Check.told(text), "bestTurn(0, #)", a, b);
    }

    private static void bestTurns() {
        Edge.of(TERMS, "BEST TURN of an INK: of the SCREENS A, B of its own CELL squares (a square of its CELL) "
                + "that whose least FAR with all other INKS is greatest, ");
        bestTurn("s5,0;s1,0", 5, 0);
        bestTurn("s3,4;s1,0", 5, 0);
        bestTurn("s3,4;s1,0;s3,4", 5, 0);
        bestTurn("s5,0;s4,4", 3, 4);
        // its own screen has no part in it, only its cell
        bestTurn("s1,0,0,5;s1,0", 1, 2);
        bestTurn("s1,0,0,-5;s1,0", 1, 2);
        bestTurn("s1,0;s5,0", 1, 0);
        bestTurn("s0,1;s5,0", 1, 0);
        bestTurn("s12,0;s1,0", 12, 0);
        bestTurn("s0,12;s1,0", 12, 0);
        // with 2, 2 both are 40 far; with 4, 3 this one is 125/8, 1, 2 is 25/2: the nearest tells, be it first or last
        bestTurn("s2,1;s2,2;s4,3", 2, 1);
        bestTurn("s2,1;s4,3;s2,2", 2, 1);
        Edge.dueRow(Check.told("s4,3;s2,1"), "bestTurn(1, #)", 2, 1);
        // a beat shorter than a pixel is one, too: 1/8
        bestTurn("s1,0;s3,2,4,3", 1, 0);

        Edge.of(TERMS, "of several that of least A; ");
        bestTurn("s2,1;s1,0", 1, 2);
        bestTurn("s2,1;s3,0", 1, 2);
        bestTurn("s7,4;s2,2", 4, 7);

        Edge.of(TERMS, "none, if there is no such square or no other INK ");
        for (String none : new String[] {"s3,0,0,1", "s6,0,0,1", "s7,0,0,1", "s11,0,0,1", "s12,0,0,1", "s11,0,0,12",
            "s12,1,1,12"}) {
            bestTurn(none + ";s1,0", NONE, NONE);
            bestTurn(none + ";" + none + ";s1,0;s2,1", NONE, NONE);
        }
        bestTurn("s2,1", NONE, NONE);
        DotScreens left = Check.told("s2,1;s1,0");
        Edge.due(left, "bestTurn(0, 0)", 1);
        Edge.due(left, "drop(1)", 1);
        Edge.dueRow(left, "bestTurn(0, #)", NONE, NONE);

        Edge.of(TERMS, "(ALIKE ones count as if nothing could be FARTHER).");
        bestTurn("s5,0;s3,4", 3, 4);
        bestTurn("s5,0;s4,3", 4, 3);
        bestTurn("s3,4;s5,0", 5, 0);
        bestTurn("s3,4;s0,-5", 5, 0);
        bestTurn("s3,4;s3,4;s-4,3;s-3,-4", 3, 4);
        // alike with one of two: the other one tells
        bestTurn("s5,0;s3,4;s1,0", 5, 0);
        // each is alike with one of them: by what is left, of which there are two as far
        bestTurn("s1,2;s1,2;s2,1", 1, 2);

        Edge.of(27, "BEST TURN: A (0), B (1). ");
        DotScreens x = Check.told("s1,0;s5,0;s1,0");
        Edge.dueRow(x, "bestTurn(0, #)", 1, 0);
        Edge.dueRow(x, "bestTurn(1, #)", 5, 0);
        Edge.dueRow(x, "bestTurn(2, #)", 1, 0);
    }

    private static void bestTurnRefused() {
        Edge.of(27, "NONE: none, ");
        Edge.refused(Edge.inks("s2,1"), "bestTurn(0, 0)", NONE);
        Edge.refused(Edge.inks("s2,1"), "bestTurn(0, 1)", NONE);
        Edge.refused(Edge.inks("s3,0,0,1;s1,0"), "bestTurn(0, 0)", NONE);
        Edge.refused(Edge.inks("s3,0,0,1;s1,0"), "bestTurn(0, 1)", NONE);
        Edge.of(27, "no such ones.");
        Supplier<DotScreens> two = Edge.inks("s2,1;s1,0");
        for (int n : new int[] {-1, 2, 3, 4, Integer.MIN_VALUE, Integer.MAX_VALUE}) {
            Edge.refused(two, "bestTurn(" + n + ", 0)", NONE);
            Edge.refused(two, "bestTurn(0, " + n + ")", NONE);
        }
        Edge.refused(DotScreens::new, "bestTurn(0, 0)", NONE);
        Edge.refused(Edge.inks("s1,0;s1,0;s1,0;s1,0"), "bestTurn(4, 0)", NONE);
    }
}
