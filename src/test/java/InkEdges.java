import java.util.function.Supplier;

/** Boundary cases of one ink's brick, homes, thresholds, dots and slope: promises 7 to 16. */
final class InkEdges {
    private static final int NONE = Edge.NONE;
    private static final int HIDDEN = Edge.HIDDEN;
    private static final int TERMS = Edge.TERMS;

    private InkEdges() {
    }

    static void run() {
        bricks();
        homes();
        homesBeyond();
        reduced();
        spots();
        ranks();
        inked();
        dots();
        grown();
        slopes();
    }

    /** A call with its first number (the ink) or its last one (an axis, a what) beyond those there are. */
    private static void beyond(String name, String between, int last, long answer) {
        Supplier<DotScreens> two = Edge.inks("s2,1t100;s3,0dt100");
        for (int ink : new int[] {-1, 2, 3, 4, Integer.MIN_VALUE, Integer.MAX_VALUE}) {
            Edge.refused(two, name + "(" + ink + between + ", 0)", answer);
        }
        for (int n : new int[] {-1, last + 1, Integer.MIN_VALUE, Integer.MAX_VALUE}) {
            Edge.refused(two, name + "(1" + between + ", " + n + ")", answer);
        }
        Edge.refused(DotScreens::new, name + "(0" + between + ", 0)", answer);
        Edge.refused(Edge.inks("s1,0;s1,0;s1,0;s1,0"), name + "(4" + between + ", 0)", answer);
    }

    private static void brick(String text, int wide, int high, int slant) {
        DotScreens x = Check.told(text);
        Edge.dueRow(x, "brick(0, #)", wide, high, slant);
        Edge.due(x, "ink(0, 4)", wide * high);
    }

    private static void bricks() {
        Edge.of(TERMS, "WIDE, the least above 0 by which it comes to itself moved along X; ");
        brick("s1,0", 1, 1, 0);
        brick("s2,1", 5, 1, 2);
        brick("s12,0", 12, 12, 0);
        brick("s11,1,-12,12", 144, 1, 11);
        brick("s-1,1,12,0", 12, 1, 11);
        brick("s12,0,-1,1", 12, 1, 11);

        Edge.of(TERMS, "HIGH, the least above 0 of Y of its points; ");
        brick("s0,12,1,0", 1, 12, 0);
        brick("s0,-12,1,0", 1, 12, 0);
        brick("s12,0,5,12", 12, 12, 5);
        brick("s3,6,6,3", 9, 3, 6);
        brick("s5,4,3,0", 3, 4, 2);
        brick("s3,0,5,4", 3, 4, 2);

        Edge.of(TERMS, "SLANT 0 .. WIDE less 1: that of the points of HIGH. ");
        brick("s12,0,11,12", 12, 12, 11);
        brick("s12,0,12,12", 12, 12, 0);
        brick("s12,0,-1,12", 12, 12, 11);
        brick("s12,0,1,-12", 12, 12, 11);
        brick("s12,0,-12,-12", 12, 12, 0);
        brick("s-11,-1,12,-12", 144, 1, 11);
        brick("s-11,1,12,12", 144, 1, 133);

        Edge.of(TERMS, "(WIDE times HIGH is CELL.) ");
        brick("s2,2", 4, 2, 2);
        brick("s6,6,-6,6", 12, 6, 6);
        brick("s6,4,-4,6", 26, 2, 16);

        Edge.of(TERMS, "BRICK of a GRID (OFFSET aside): ");
        brick("s2,1o99,-99", 5, 1, 2);
        DotScreens x = Check.told("s3,6,6,3");
        Edge.due(x, "offset(0, -7, 5)", 12);
        Edge.dueRow(x, "brick(0, #)", 9, 3, 6);

        Edge.of(7, "BRICK: 0 WIDE, 1 HIGH, 2 SLANT; HOME is asked by home(). ");
        Edge.dueRow(Check.told("s2,1;s3,6,6,3"), "brick(1, #)", 9, 3, 6);
        Edge.of(7, "HIDDEN: no such ones.");
        beyond("brick", "", 2, HIDDEN);
    }

    private static void home(DotScreens x, int pixelX, int pixelY, int homeX, int homeY) {
        Edge.dueRow(x, "home(0, " + pixelX + ", " + pixelY + ", #)", homeX, homeY);
    }

    private static void homes() {
        Edge.of(TERMS, "Its GRID: all sums of whole times of U and V, moved by its OFFSET. ");
        DotScreens grid = Check.told("s3,1,-2,4");
        for (int i = -3; i <= 3; i++) {
            for (int j = -3; j <= 3; j++) {
                home(grid, 3 * i - 2 * j, i + 4 * j, 0, 0);
            }
        }
        DotScreens moved = Check.told("s3,1,-2,4o5,-7");
        home(moved, 5, -7, 0, 0);
        home(moved, 8, -6, 0, 0);
        home(moved, 3, -3, 0, 0);

        Edge.of(TERMS, "The HOME of a PIXEL x, y: that of X 0 .. WIDE less 1, Y 0 .. HIGH less 1 "
                + "to which it comes by the GRID's moves ");
        DotScreens x = Check.told("s3,6,6,3");
        home(x, 0, 0, 0, 0);
        home(x, 8, 0, 8, 0);
        home(x, 9, 0, 0, 0);
        home(x, -1, 0, 8, 0);
        home(x, -9, 0, 0, 0);
        home(x, -10, 0, 8, 0);
        home(x, 0, 2, 0, 2);
        home(x, 8, 2, 8, 2);
        home(x, 0, 3, 3, 0);
        home(x, 5, 3, 8, 0);
        home(x, 6, 3, 0, 0);
        home(x, 0, -1, 6, 2);
        home(x, 2, -1, 8, 2);
        home(x, 3, -1, 0, 2);
        home(x, -1, -1, 5, 2);
        home(x, -6, -3, 0, 0);
        home(x, -7, -3, 8, 0);
        home(x, 3, -3, 0, 0);
        home(x, 3, -4, 6, 2);
        DotScreens one = Check.told("s1,0");
        home(one, 0, 0, 0, 0);
        home(one, 9999, -9999, 0, 0);
        DotScreens row = Check.told("s11,1,-12,12");
        home(row, 143, 0, 143, 0);
        home(row, 144, 0, 0, 0);
        home(row, -1, 0, 143, 0);
        home(row, 0, 1, 133, 0);
        home(row, 0, -1, 11, 0);
        DotScreens column = Check.told("s1,0,0,12");
        home(column, 5, 11, 0, 11);
        home(column, 5, 12, 0, 0);
        home(column, -5, -1, 0, 11);

        Edge.of(TERMS, "(OFFSET taken away first). ");
        DotScreens put = Check.told("s3,6,6,3o2,1");
        home(put, 2, 1, 0, 0);
        home(put, 10, 3, 8, 2);
        home(put, 11, 1, 0, 0);
        home(put, 1, 1, 8, 0);
        home(put, 0, 0, 4, 2);
        Edge.due(put, "offset(0, -99, 99)", 199);
        home(put, -99, 99, 0, 0);
        home(put, -100, 99, 8, 0);
        home(put, -99, 98, 6, 2);
        Edge.due(put, "offset(0, 0, 0)", 198);
        home(put, 0, 0, 0, 0);

        Edge.of(8, "HOME of a PIXEL (-9999 .. 9999): X (0), Y (1). ");
        DotScreens far = Check.told("s12,0,5,12");
        home(far, 9999, 9999, 2, 3);
        home(far, -9999, -9999, 3, 9);
        home(far, 9999, -9999, 9, 9);
        home(far, -9999, 9999, 8, 3);
        Edge.due(far, "offset(0, -99, 99)", 198);
        home(far, 9999, -9999, 4, 6);
        Edge.due(far, "offset(0, 99, -99)", 396);
        home(far, -9999, 9999, 1, 6);
    }

    /** A call of one ink and a pixel: all that is beyond its bounds, with an ink that is there. */
    private static void pixelsBeyond(String name, String behind, long answer) {
        Supplier<DotScreens> two = Edge.inks("s2,1t100;s3,0dt100o-99,99");
        int[][] pixels = {{10000, 0}, {-10000, 0}, {0, 10000}, {0, -10000}, {Integer.MAX_VALUE, 0}, {0, Integer.MAX_VALUE},
            {Integer.MIN_VALUE, 0}, {0, Integer.MIN_VALUE}};
        for (int[] p : pixels) {
            Edge.refused(two, name + "(0, " + p[0] + ", " + p[1] + behind + ")", answer);
            Edge.refused(two, name + "(1, " + p[0] + ", " + p[1] + behind + ")", answer);
        }
        for (int ink : new int[] {-1, 2, 3, 4, Integer.MIN_VALUE, Integer.MAX_VALUE}) {
            Edge.refused(two, name + "(" + ink + ", 0, 0" + behind + ")", answer);
        }
        Edge.refused(DotScreens::new, name + "(0, 0, 0" + behind + ")", answer);
        Edge.refused(Edge.inks("s1,0;s1,0;s1,0;s1,0"), name + "(4, 0, 0" + behind + ")", answer);
    }

    private static void homesBeyond() {
        Edge.of(8, "HIDDEN: no such ones.");
        pixelsBeyond("home", ", 0", HIDDEN);
        pixelsBeyond("home", ", 1", HIDDEN);
        beyond("home", ", 0, 0", 1, HIDDEN);
    }

    private static void reduced(String text, int... want) {
        Edge.dueRow(Check.told(text), "reduced(0, #)", want[0], want[1], want[2], want[3]);
    }

    private static void reduced() {
        Edge.of(TERMS, "REDUCED: two moves of the GRID that make it, the first a shortest one, "
                + "the second a shortest one of those that make it together with the first: ");
        reduced("s3,0,0,2", 0, 2, 3, 0);
        reduced("s0,12,1,0", 1, 0, 0, 12);
        reduced("s1,0,12,12", 1, 0, 0, 12);
        reduced("s12,12,11,12", 1, 0, 0, 12);
        reduced("s3,6,6,3", 3, -3, 6, 3);
        // 4, 0 is shorter than the second, but makes no grid with the first
        reduced("s2,0,1,12", 2, 0, 1, 12);
        reduced("s11,12,12,1", 1, -11, 12, 1);

        Edge.of(TERMS, "of several first the one with greater X, then greater Y.");
        reduced("s1,0", 1, 0, 0, 1);
        reduced("s-1,0,0,-1", 1, 0, 0, 1);
        reduced("s12,0", 12, 0, 0, 12);
        reduced("s1,1", 1, 1, 1, -1);
        reduced("s-1,1", 1, 1, 1, -1);
        reduced("s2,1", 2, 1, 1, -2);
        reduced("s1,2", 2, -1, 1, 2);
        reduced("s4,1,1,4", 4, 1, 1, 4);
        reduced("s4,-1,1,-4", 4, -1, 1, -4);
        reduced("s12,11,11,12", 1, -1, 12, 11);
        reduced("s2,0,1,-12", 2, 0, 1, 12);
        reduced("s0,2,12,1", 0, 2, 12, 1);
        reduced("s0,2,-12,-1", 0, 2, 12, 1);

        Edge.of(9, "REDUCED: 0, 1 the first, 2, 3 the second. ");
        Edge.dueRow(Check.told("s2,1;s3,0,0,2o9,-9"), "reduced(1, #)", 0, 2, 3, 0);
        Edge.of(9, "HIDDEN: no such ones.");
        beyond("reduced", "", 3, HIDDEN);
    }

    private static void spots() {
        Edge.of(TERMS, "Each PIXEL has its middle at x and a half, y and a half; all doubled: 2 x + 1, 2 y + 1. ");
        Edge.dueRow(Check.told("s5,0"), "spot(0, #, 0)", 2, 10, 26, 10, 2, 2);

        Edge.of(TERMS, "ROUND: the least of squares of doubled distances from it to points of the GRID (doubled); ");
        Edge.due(Check.told("s1,0"), "spot(0, 0, 0)", 2);
        DotScreens round = Check.told("s12,0");
        Edge.due(round, "spot(0, 0, 0)", 2);
        Edge.due(round, "spot(0, 5, 5)", 242);
        Edge.due(round, "spot(0, 6, 6)", 242);
        Edge.due(round, "spot(0, 0, 6)", 122);
        Edge.due(round, "spot(0, -1, -1)", 2);
        DotScreens column = Check.told("s0,12,1,0");
        Edge.due(column, "spot(0, 7, 5)", 122);
        Edge.due(column, "spot(0, -7, 6)", 122);
        Edge.due(column, "spot(0, 0, 11)", 2);
        // the nearest points of a brick one row high lie in rows far away
        DotScreens row = Check.told("s12,0,0,12");
        Edge.due(row, "screen(0, 11, 1, -12, 12)", 144);
        Edge.due(row, "spot(0, 5, 0)", 122);
        Edge.due(row, "spot(0, -6, 6)", 250);
        Edge.due(row, "spot(0, 12, 0)", 10);
        Edge.due(row, "spot(0, -10, 0)", 18);
        Edge.due(row, "spot(0, -12, 0)", 10);
        Edge.due(row, "spot(0, -23, 0)", 26);

        Edge.of(TERMS, "DIAMOND: the least of sums of doubled distances by X and by Y; ");
        Edge.due(Check.told("s1,0d"), "spot(0, 0, 0)", 2);
        DotScreens diamond = Check.told("s12,0d");
        Edge.due(diamond, "spot(0, 0, 0)", 2);
        Edge.due(diamond, "spot(0, 5, 5)", 22);
        Edge.due(diamond, "spot(0, 6, 6)", 22);
        Edge.due(diamond, "spot(0, 0, 6)", 12);
        Edge.due(diamond, "spot(0, 11, -12)", 2);
        // nearer by the sum than by squares: 9 and 1 from one point, 7 and 5 from another one
        Edge.due(Check.told("s8,3,-3,8d"), "spot(0, 4, 0)", 10);
        Edge.due(Check.told("s8,3,-3,8r"), "spot(0, 4, 0)", 74);

        Edge.of(TERMS, "LINE: (2 x + 1) B less (2 y + 1) A by twice the CELL, what is left, "
                + "or twice the CELL less that: the lesser. ");
        DotScreens line = Check.told("s3,0l");
        Edge.dueRow(line, "spot(0, 0, #)", 3, 9, 3, 3, 9, 3);
        Edge.dueRow(line, "spot(0, #, 1)", 9, 9, 9);
        Edge.due(line, "spot(0, 0, -1)", 3);
        Edge.due(line, "spot(0, 0, -2)", 9);
        Edge.dueRow(Check.told("s1,1l"), "spot(0, #, 0)", 0, 2, 0);
        Edge.dueRow(Check.told("s3,1l"), "spot(0, #, 0)", 2, 0, 2, 4, 6, 8, 10, 8, 6, 4, 2);
        Edge.dueRow(Check.told("s3,1,1,-3l"), "spot(0, #, 0)", 2, 0, 2, 4, 6, 8, 10, 8, 6, 4, 2);
        Edge.due(Check.told("s1,0,0,-1l"), "spot(0, 0, 0)", 1);

        Edge.of(TERMS, "SPOT of a PIXEL (OFFSET taken away): ");
        Edge.dueRow(Check.told("s3,0lo0,1"), "spot(0, 0, #)", 3, 3, 9, 3);
        Edge.dueRow(Check.told("s5,0o2,99"), "spot(0, #, -1)", 10, 2, 2, 10, 26);
        Edge.dueRow(Check.told("s5,0do-99,5"), "spot(0, #, 0)", 2, 2, 4, 6, 4);

        Edge.of(10, "SPOT of a PIXEL. ");
        DotScreens far = Check.told("s12,0l;s12,0");
        Edge.due(far, "spot(1, 9999, 9999)", 98);
        Edge.due(far, "spot(1, -9999, -9999)", 50);
        Edge.due(far, "spot(1, -9999, 9999)", 74);
        Edge.due(far, "spot(0, 9999, 9999)", 84);
        Edge.due(far, "spot(0, 9999, -9999)", 60);
        Edge.of(10, "NONE: no such ones.");
        pixelsBeyond("spot", "", NONE);
    }

    private static void ranks() {
        Edge.of(TERMS, "RANK: 0 .. CELL less 1: of HOMES by SPOT rising, then Y, then X; that of its HOME. ");
        int[][] want = {{0, 4, 5, 1}, {6, 12, 13, 7}, {8, 14, 15, 9}, {2, 10, 11, 3}};
        DotScreens x = Check.told("s4,0");
        DotScreens moved = Check.told("s4,0o1,-2");
        for (int y = 0; y < 4; y++) {
            for (int i = 0; i < 4; i++) {
                Edge.due(x, "rank(0, " + i + ", " + y + ")", want[y][i]);
                Edge.due(x, "rank(0, " + (i - 8) + ", " + (y + 400) + ")", want[y][i]);
                Edge.due(x, "ranked(0, " + want[y][i] + ", 0)", i);
                Edge.due(x, "ranked(0, " + want[y][i] + ", 1)", y);
                Edge.due(moved, "rank(0, " + (i + 1) + ", " + (y - 2) + ")", want[y][i]);
                // a HOME is where it is without the OFFSET
                Edge.due(moved, "ranked(0, " + want[y][i] + ", 1)", y);
            }
        }
        // the first home is not the first rank
        Edge.dueRow(Check.told("s3,1l"), "rank(0, #, 0)", 1, 0, 2, 3, 5, 7, 9, 8, 6, 4, 1);
        Edge.dueRow(Check.told("s3,1l"), "ranked(0, #, 0)", 1, 0, 2, 3, 9, 4, 8, 5, 7, 6, HIDDEN);
        for (String text : new String[] {"s1,0", "s12,0", "s12,0d", "s12,0l", "s11,1,-12,12", "s11,1,-12,12l", "s1,0,0,12d"}) {
            eachOnce(text);
        }

        Edge.of(11, "RANK of a PIXEL. ");
        Edge.due(Check.told("s1,0"), "rank(0, 9999, -9999)", 0);
        Edge.due(x, "rank(0, 9999, 9999)", 3);
        Edge.due(x, "rank(0, -9999, 9999)", 10);
        Edge.due(x, "rank(0, -9999, -9999)", 12);
        Edge.of(11, "NONE: no such ones.");
        pixelsBeyond("rank", "", NONE);

        Edge.of(12, "The HOME of a RANK: X (0), Y (1). ");
        Edge.dueRow(Check.told("s1,0"), "ranked(0, 0, #)", 0, 0);
        Edge.dueRow(x, "ranked(0, 0, #)", 0, 0);
        Edge.dueRow(x, "ranked(0, 15, #)", 2, 2);
        Edge.dueRow(Check.told("s2,1;s12,0"), "ranked(1, 143, #)", 6, 6);
        Edge.of(12, "HIDDEN: no such ones.");
        beyond("ranked", ", 0", 1, HIDDEN);
        for (int rank : new int[] {-1, 5, Integer.MIN_VALUE, Integer.MAX_VALUE}) {
            Edge.refused(Edge.inks("s2,1;s3,0"), "ranked(0, " + rank + ", 0)", HIDDEN);
        }
        Edge.refused(Edge.inks("s2,1;s3,0"), "ranked(1, 9, 1)", HIDDEN);
        Edge.refused(Edge.inks("s1,0"), "ranked(0, 1, 0)", HIDDEN);
        Edge.refused(Edge.inks("s12,0"), "ranked(0, 144, 0)", HIDDEN);
    }

    /** Each number of 0 .. CELL less 1 is the rank of one home; ranked() tells which. */
    private static void eachOnce(String text) {
        DotScreens x = Check.told(text);
        int wide = x.brick(0, 0);
        int high = x.brick(0, 1);
        boolean[] had = new boolean[wide * high];
        int found = 0;
        for (int y = 0; y < high; y++) {
            for (int i = 0; i < wide; i++) {
                int rank = x.rank(0, i, y);
                if (rank >= 0 && rank < had.length && !had[rank]) {
                    had[rank] = true;
                    found++;
                }
                Edge.due(x, "ranked(0, " + rank + ", 0)", i);
            }
        }
        Edge.due("ranks of " + text, found, wide * high);
    }

    private static void inked() {
        Edge.of(TERMS, "INKED: RANK below LEVEL; ");
        DotScreens x = Check.told("s4,0");
        Edge.due(x, "ink(0, 7)", 8);
        Edge.due(x, "inked(0, 3, 1)", 1);
        Edge.due(x, "inked(0, 0, 2)", 0);
        Edge.due(x, "tone(0, 0)", 50);
        Edge.due(x, "inked(0, 0, 0)", 0);
        Edge.due(x, "tone(0, 3)", 0);
        Edge.due(x, "inked(0, 0, 0)", 0);
        Edge.due(x, "tone(0, 4)", 3);
        Edge.due(x, "inked(0, 0, 0)", 1);
        Edge.due(x, "inked(0, 3, 0)", 0);
        Edge.due(x, "tone(0, 96)", 4);
        Edge.due(x, "inked(0, 1, 2)", 1);
        Edge.due(x, "inked(0, 2, 2)", 0);
        Edge.due(x, "tone(0, 100)", 96);
        Edge.due(x, "inked(0, 2, 2)", 1);

        Edge.of(13, "INKED. ");
        DotScreens far = Check.told("s1,0t49;s4,0t12");
        Edge.due(far, "inked(0, 0, 0)", 0);
        Edge.due(far, "inked(1, 9999, 0)", 1);
        Edge.due(far, "inked(1, 9999, 9999)", 0);
        Edge.due(far, "inked(1, -9999, 0)", 0);
        Edge.due(far, "inked(1, -9996, -9996)", 1);
        Edge.of(13, "False: no such ones.");
        pixelsBeyond("inked", "", 0);
    }

    private static void dots() {
        Edge.of(TERMS, "DOTS at a LEVEL (0 .. CELL): HOMES of RANK below it; ");
        DotScreens x = Check.told("s4,0");
        Edge.dueRow(x, "dots(0, #)", 0, 1, 1, 1, 1, 1, 1, 1, 1, 1, 1, 1, 1, 1, 1, 1, 1, NONE);
        Edge.dueRow(Check.told("s1,0"), "dots(0, #)", 0, 1, NONE);
        Edge.due(Check.told("s12,0"), "dots(0, 144)", 1);
        Edge.due(Check.told("s12,0"), "dots(0, 145)", NONE);
        // the tone has no part in it
        Edge.dueRow(Check.told("s3,1t0"), "dots(0, #)", 0, 1, 2, 1);

        Edge.of(TERMS, "two hang together, if PIXELS of theirs are side by side (4 ways): how many lots. ");
        // by corners alone: 0 and 2, which is one up and one to the left
        Edge.dueRow(Check.told("s3,1"), "dots(0, #)", 0, 1, 2, 1, 1, 1, 1, 1, 1, 1, 1, NONE);
        // over the brick's side, and over its top by the slant
        Edge.due(Check.told("s4,0"), "dots(0, 2)", 1);
        Edge.due(Check.told("s2,2"), "dots(0, 3)", 1);
        Edge.dueRow(Check.told("s1,1"), "dots(0, #)", 0, 1, 1, NONE);

        Edge.of(14, "DOTS at a LEVEL. ");
        Edge.dueRow(Check.told("s1,0;s3,1"), "dots(1, #)", 0, 1, 2, 1);
        Edge.of(14, "NONE: no such ones.");
        Supplier<DotScreens> two = Edge.inks("s2,1;s3,0");
        for (String call : new String[] {"dots(0, -1)", "dots(0, 6)", "dots(1, 10)", "dots(1, -1)", "dots(2, 0)",
            "dots(-1, 0)", "dots(4, 0)", "dots(0, 2147483647)", "dots(0, -2147483648)", "dots(-2147483648, 0)"}) {
            Edge.refused(two, call, NONE);
        }
        Edge.refused(DotScreens::new, "dots(0, 0)", NONE);
    }

    private static void grown() {
        Edge.of(TERMS, "TOUCH: the least LEVEL at which one can go by INKED PIXELS, side by side, "
                + "from one to another one of the same HOME; ");
        Edge.due(Check.told("s1,0"), "grown(0, 0)", 1);
        Edge.due(Check.told("s1,0,0,12"), "grown(0, 0)", 1);
        Edge.due(Check.told("s0,1,12,0"), "grown(0, 0)", 1);
        Edge.due(Check.told("s1,1"), "grown(0, 0)", 2);
        Edge.due(Check.told("s4,0"), "grown(0, 0)", 6);
        Edge.due(Check.told("s4,0l"), "grown(0, 0)", 4);
        Edge.due(Check.told("s0,4l"), "grown(0, 0)", 7);
        Edge.due(Check.told("s2,0"), "grown(0, 0)", 2);

        Edge.of(TERMS, "SOLID: the least at which so by two moves that are not along one line.");
        Edge.due(Check.told("s1,0"), "grown(0, 1)", 1);
        Edge.due(Check.told("s1,0,0,12"), "grown(0, 1)", 12);
        Edge.due(Check.told("s0,1,12,0"), "grown(0, 1)", 12);
        Edge.due(Check.told("s1,1"), "grown(0, 1)", 2);
        Edge.due(Check.told("s4,0"), "grown(0, 1)", 9);
        Edge.due(Check.told("s4,0l"), "grown(0, 1)", 13);
        Edge.due(Check.told("s0,4l"), "grown(0, 1)", 10);
        Edge.due(Check.told("s2,0"), "grown(0, 1)", 3);

        Edge.of(15, "TOUCH (what 0), SOLID (1). ");
        Edge.dueRow(Check.told("s1,0;s4,0t0"), "grown(1, #)", 6, 9);
        Edge.of(15, "NONE: no such ones.");
        beyond("grown", "", 1, NONE);
    }

    private static void slope(String text, int x, int y) {
        Edge.dueRow(Check.told(text), "slope(0, #)", x, y);
    }

    private static void slopes() {
        Edge.of(TERMS, "SLOPE of a SCREEN: A, B by their greatest common part, made by quarter turns (X, Y to -Y, X) "
                + "so that X is above 0 and Y not below 0. ");
        slope("s2,1", 2, 1);
        slope("s-1,2", 2, 1);
        slope("s-2,-1", 2, 1);
        slope("s1,-2", 2, 1);
        slope("s1,2", 1, 2);
        slope("s-2,1", 1, 2);
        slope("s5,0", 1, 0);
        slope("s0,5", 1, 0);
        slope("s-5,0", 1, 0);
        slope("s0,-5", 1, 0);
        slope("s3,3", 1, 1);
        slope("s-3,3", 1, 1);
        slope("s3,-3", 1, 1);
        slope("s12,8,1,1", 3, 2);
        slope("s8,12,1,1", 2, 3);
        slope("s12,-11,0,1", 11, 12);
        slope("s12,12,1,0", 1, 1);
        slope("s-12,-12,0,12", 1, 1);

        Edge.of(16, "SLOPE: X (0), Y (1). ");
        Edge.dueRow(Check.told("s1,0;s6,4o7,7"), "slope(1, #)", 3, 2);
        Edge.of(16, "HIDDEN: no such ones.");
        beyond("slope", "", 1, HIDDEN);
    }
}
