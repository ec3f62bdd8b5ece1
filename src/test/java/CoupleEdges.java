import java.util.function.Supplier;

/** Boundary cases of two inks and of sets of inks: promises 17 to 21. */
final class CoupleEdges {
    private static final int HIDDEN = Edge.HIDDEN;
    private static final int TERMS = Edge.TERMS;
    private static final int[] NO_INKS = {-1, 2, 3, 4, Integer.MIN_VALUE, Integer.MAX_VALUE};

    private CoupleEdges() {
    }

    static void run() {
        turns();
        waves();
        beats();
        fars();
        commons();
        supercells();
    }

    private static void turn(String text, int x, int y) {
        DotScreens both = Check.told(text);
        Edge.dueRow(both, "turn(0, 1, #)", x, y);
        Edge.dueRow(both, "turn(1, 0, #)", x, y);
    }

    private static void turns() {
        Edge.of(TERMS, "TURN of two SCREENS: A A' + B B', A B' - B A' of both U's, made so likewise by quarter turns, ");
        turn("s2,1;s2,1", 1, 0);
        turn("s1,0;s0,1", 1, 0);
        turn("s1,0;s-1,0", 1, 0);
        turn("s3,0;s0,-5", 1, 0);
        turn("s1,0;s3,1", 3, 1);
        turn("s1,0;s-1,3", 3, 1);
        turn("s1,0;s-3,-1", 3, 1);
        turn("s1,0;s1,-3", 3, 1);
        turn("s12,12,1,0;s12,-12,1,0", 1, 0);
        turn("s12,11,1,1;s-11,12,1,0", 1, 0);
        // V has no part in it
        turn("s1,0,5,7;s3,1,-1,12", 3, 1);

        Edge.of(TERMS, "then, if Y is above X, Y, X in place of X, Y; ");
        turn("s1,0;s1,3", 3, 1);
        turn("s1,0;s3,-1", 3, 1);
        turn("s1,0;s1,1", 1, 1);
        turn("s1,0;s-1,1", 1, 1);
        turn("s2,1;s1,2", 4, 3);

        Edge.of(TERMS, "without a common part.");
        turn("s4,2;s3,0", 2, 1);
        turn("s12,0;s12,0", 1, 0);
        turn("s6,4;s4,6", 12, 5);

        Edge.of(17, "TURN of two INKS: X (0), Y (1). ");
        DotScreens x = Check.told("s1,0;s3,1;s4,2");
        Edge.dueRow(x, "turn(1, 2, #)", 7, 1);
        // only beat and far are hidden where both are one
        Edge.dueRow(x, "turn(1, 1, #)", 1, 0);

        Edge.of(17, "HIDDEN: no such ones.");
        noSuchCouples("turn", 1);
    }

    private static void noSuchCouples(String name, int lastWhat) {
        Supplier<DotScreens> two = Edge.inks("s2,1;s3,0d");
        for (int ink : NO_INKS) {
            Edge.refused(two, name + "(" + ink + ", 0, 0)", HIDDEN);
            Edge.refused(two, name + "(0, " + ink + ", 0)", HIDDEN);
            Edge.refused(two, name + "(" + ink + ", " + ink + ", 0)", HIDDEN);
        }
        for (int what : new int[] {-1, lastWhat + 1, Integer.MIN_VALUE, Integer.MAX_VALUE}) {
            Edge.refused(two, name + "(0, 1, " + what + ")", HIDDEN);
        }
        Edge.refused(Edge.inks("s2,1"), name + "(0, 1, 0)", HIDDEN);
        Edge.refused(Edge.inks("s1,0;s1,0;s1,0;s1,0"), name + "(0, 4, 0)", HIDDEN);
        Edge.refused(DotScreens::new, name + "(0, 1, 0)", HIDDEN);
    }

    private static void beat(String text, long... want) {
        Edge.dueRow(Check.told(text), "beat(0, 1, #)", want);
    }

    private static void waves() {
        Edge.of(TERMS, "WAVES of a SCREEN: D, -C and -B, A, and both with the other sign "
                + "(in this order: first, second, less first, less second), by A D less B C (with its sign). ");
        // the second wave of both
        beat("s1,0,0,2;s1,0,0,3", 0, 1, 1, 1, 1);
        // the other one's cell is below 0, so that its less second is what comes near
        beat("s1,0;s1,0,0,-2", 0, -1, 1, 3, 1);
        // less first of the other one
        beat("s2,1;s-3,0,0,3", -3, -9, 0, 2, 0);
        beat("s3,1,1,2;s-4,-1,0,3", -9, 12, 0, 2, 0);

        Edge.of(TERMS, "BEAT of two INKS: of all 16 differences (a WAVE of the first less a WAVE of the other one; "
                + "in lowest whole numbers: P by N N', both cells with their signs: "
                + "P = N' times the one less N times the other) that are not 0 the shortest P, ");
        beat("s2,1;s3,0", 3, 9, 0, 0, 0);
        beat("s3,0;s2,1", -3, -9, 0, 0, 0);
        beat("s1,0;s2,0", 2, 0, 0, 0, 0);
        beat("s2,1,1,-2;s2,1", -15, 5, 0, 1, 1);
        beat("s2,1;s2,1,1,-2", -5, -15, 0, 1, 1);

        Edge.of(TERMS, "of several the first (by the first one's WAVE, then the other's). ");
        beat("s1,1;s1,0", -1, 1, 0, 0, 0);
        beat("s1,0;s1,1", 1, -1, 0, 0, 0);
        beat("s2,0;s2,2", 8, -8, 0, 0, 0);
        beat("s1,0;s1,0", 1, -1, 0, 1, 1);

        Edge.of(TERMS, "ALIKE: some difference is 0. ");
        beat("s2,0,0,1;s2,0,0,3", 6, -4, 0, 1, 1);
        Edge.due(Check.told("s2,1;s1,2"), "beat(0, 1, 4)", 0);
        Edge.due(Check.told("s2,1;s-1,2"), "beat(0, 1, 4)", 1);
        Edge.due(Check.told("s2,1;s-2,-1o5,5"), "beat(0, 1, 4)", 1);
        Edge.due(Check.told("s2,0,0,1;s0,1,3,0"), "beat(0, 1, 4)", 1);
        Edge.due(Check.told("s2,0,0,1;s3,0,0,4"), "beat(0, 1, 4)", 0);
    }

    private static void beats() {
        Edge.of(18, "BEAT: P by X (0), Y (1), the WAVE of the first (2), of the other one (3; 0 .. 3), 4 1 if ALIKE, else 0. ");
        DotScreens x = Check.told("s5,5;s1,0;s1,0,0,-2;s2,1");
        Edge.dueRow(x, "beat(1, 2, #)", 0, -1, 1, 3, 1, HIDDEN);
        Edge.dueRow(x, "beat(2, 1, #)", 0, -1, 1, 3, 1, HIDDEN);
        Edge.due(x, "beat(0, 3, 4)", 0);

        Edge.of(18, "HIDDEN: no such ones, ");
        noSuchCouples("beat", 4);
        Edge.of(18, "both are one.");
        for (int ink = 0; ink < 2; ink++) {
            for (int what = 0; what <= 4; what++) {
                Edge.refused(Edge.inks("s2,1;s3,0d"), "beat(" + ink + ", " + ink + ", " + what + ")", HIDDEN);
            }
        }
    }

    private static void far(String text, long upper, long lower, long root) {
        DotScreens x = Check.told(text);
        Edge.dueRow(x, "far(0, 1, #)", upper, lower, root);
        Edge.dueRow(x, "far(1, 0, #)", upper, lower, root);
    }

    private static void fars() {
        Edge.of(TERMS, "FAR: N N' squared by P P (X and Y squared, added): the square of the beat's length; ");
        far("s2,1;s3,0", 45, 2, 4);
        far("s1,0;s2,0", 4, 1, 2);
        far("s12,0;s11,4", 19728, 17, 34);
        far("s1,0;s1,0,0,-2", 4, 1, 2);
        // alike: by the shortest difference that is not 0
        far("s2,1,1,-2;s2,1", 5, 2, 1);

        Edge.of(TERMS, "in lowest terms; ");
        far("s2,0,0,1;s2,0,0,3", 36, 13, 1);
        far("s5,0;s5,5", 50, 1, 7);
        far("s1,0;s1,0", 1, 2, 0);

        Edge.of(TERMS, "its root, cut.");
        far("s1,0,0,2;s1,0,0,3", 36, 1, 6);
        far("s2,0;s2,2", 8, 1, 2);
        far("s1,1;s1,0", 2, 1, 1);
        far("s3,0;s3,0", 9, 2, 2);

        Edge.of(19, "FAR: upper (0), lower (1), its root, cut (2). ");
        Edge.dueRow(Check.told("s1,0;s2,1;s3,0"), "far(1, 2, #)", 45, 2, 4, HIDDEN);

        Edge.of(19, "HIDDEN: no such ones, ");
        noSuchCouples("far", 2);
        Edge.of(19, "both are one.");
        for (int ink = 0; ink < 2; ink++) {
            for (int what = 0; what <= 2; what++) {
                Edge.refused(Edge.inks("s2,1;s3,0d"), "far(" + ink + ", " + ink + ", " + what + ")", HIDDEN);
            }
        }
    }

    private static void commons() {
        Edge.of(TERMS, "COMMON of a set of INKS (bits): points that are of all their GRIDS, OFFSETS aside: "
                + "a GRID again: its CELL, BRICK, REDUCED; ");
        DotScreens x = Check.told("s2,0;s3,0;s5,0;s7,0");
        Edge.dueRow(x, "common(#, 0)", HIDDEN, 4, 9, 36, 25, 100, 225, 900, 49, 196, 441, 1764, 1225, 4900, 11025, 44100,
                HIDDEN);
        Edge.dueRow(x, "common(15, #)", 44100, 210, 210, 0, 210, 0, 0, 210, 210, HIDDEN);
        // one alone has its own grid; one twice the same
        Edge.dueRow(Check.told("s2,1o3,4"), "common(1, #)", 5, 5, 1, 2, 2, 1, 1, -2, 5, HIDDEN);
        Edge.dueRow(Check.told("s2,1;s2,1o1,1;s-1,2;s1,-2d"), "common(15, #)", 5, 5, 1, 2, 2, 1, 1, -2, 5);
        Edge.dueRow(Check.told("s2,1o7,9;s3,0o-99,1"), "common(3, #)", 45, 15, 3, 6, 6, 3, 3, -6, 15);
        Edge.dueRow(Check.told("s1,0;s12,0"), "common(3, #)", 144, 12, 12, 0, 12, 0, 0, 12, 12);
        Edge.dueRow(Check.told("s1,0;s1,0;s1,0;s1,0"), "common(15, #)", 1, 1, 1, 0, 1, 0, 0, 1, 1);
        greatest();

        Edge.of(20, "COMMON of a set of INKS: 0 CELL, 1 WIDE, 2 HIGH, 3 SLANT, 4 to 7 REDUCED, 8 SUPERCELL. ");
        Edge.dueRow(Check.told("s2,1;s3,0;s1,1"), "common(3, #)", 45, 15, 3, 6, 6, 3, 3, -6, 15);

        Supplier<DotScreens> two = Edge.inks("s2,1;s3,0");
        Edge.of(20, "HIDDEN: an empty set, ");
        for (int what = 0; what <= 8; what++) {
            Edge.refused(two, "common(0, " + what + ")", HIDDEN);
        }
        Edge.of(20, "INKS that are not there, ");
        for (int set : new int[] {4, 5, 7, 8, 15, 16, 17, 19, -1, -4, Integer.MIN_VALUE, Integer.MAX_VALUE}) {
            Edge.refused(two, "common(" + set + ", 0)", HIDDEN);
        }
        Edge.refused(DotScreens::new, "common(1, 0)", HIDDEN);
        Edge.refused(Edge.inks("s2,1;s3,0;s1,1"), "common(8, 8)", HIDDEN);
        Edge.refused(Edge.inks("s2,1;s3,0;s1,1;s2,0"), "common(16, 0)", HIDDEN);
        Edge.refused(Edge.inks("s2,1;s3,0;s1,1;s2,0"), "common(17, 0)", HIDDEN);
        Edge.refused(Edge.inks("s2,1;s3,0;s1,1;s2,0"), "common(-1, 0)", HIDDEN);
        Edge.of(20, "no such what.");
        for (int what : new int[] {-1, 9, Integer.MIN_VALUE, Integer.MAX_VALUE}) {
            Edge.refused(two, "common(3, " + what + ")", HIDDEN);
        }
    }

    /** The greatest cell in common: four cells without a common part, each a brick one row high. */
    private static void greatest() {
        DotScreens x = Check.told("s11,1,-12,12;s12,1,1,12;s12,5,1,12;s11,4");
        long cell = 144L * 143 * 139 * 137;
        Edge.dueRow(x, "common(15, #)", cell, cell, 1);
        long slant = x.common(15, 3);
        Edge.due("SLANT by 144", slant % 144, 11);
        Edge.due("SLANT by 143", slant % 143, 12);
        Edge.due("SLANT by 139", slant % 139, 58);
        Edge.due("SLANT by 137", slant % 137, 37);
        Edge.due("SLANT is below WIDE", slant < cell ? 1 : 0, 1);
        Edge.due(x, "common(15, 8)", cell);
        Edge.due(x, "inCell(15, 0)", cell / 144 * cell);
        Edge.due(x, "inCell(15, 3)", cell / 137 * cell);
    }

    private static void supercells() {
        Edge.of(TERMS, "SUPERCELL: the least W above 0 so that W, 0 and 0, W are of it; ");
        Edge.due(Check.told("s1,0"), "common(1, 8)", 1);
        Edge.due(Check.told("s3,0,0,2"), "common(1, 8)", 6);
        Edge.due(Check.told("s2,0,1,2"), "common(1, 8)", 4);
        Edge.due(Check.told("s12,0"), "common(1, 8)", 12);
        Edge.due(Check.told("s11,1,-12,12"), "common(1, 8)", 144);
        Edge.due(Check.told("s1,1"), "common(1, 8)", 2);
        Edge.due(Check.told("s12,0,6,12"), "common(1, 8)", 24);
        Edge.due(Check.told("s1,0,0,12;s12,0,0,1"), "common(3, 8)", 12);

        Edge.of(TERMS, "DOTS of an INK in a SUPERCELL: W W by its CELL.");
        Edge.due(Check.told("s1,0"), "inCell(1, 0)", 1);
        Edge.due(Check.told("s2,0,1,2"), "inCell(1, 0)", 4);
        Edge.due(Check.told("s12,0"), "inCell(1, 0)", 1);
        Edge.due(Check.told("s11,1,-12,12"), "inCell(1, 0)", 144);

        Edge.of(21, "DOTS of an INK in the SUPERCELL of a set of which it is. ");
        DotScreens x = Check.told("s2,0;s3,0;s5,0;s7,0");
        Edge.dueRow(x, "inCell(15, #)", 11025, 4900, 1764, 900, HIDDEN);
        Edge.dueRow(x, "inCell(5, #)", 25, HIDDEN, 4, HIDDEN, HIDDEN);
        Edge.due(x, "inCell(8, 3)", 1);

        Edge.of(21, "HIDDEN: no such ones, ");
        Supplier<DotScreens> two = Edge.inks("s2,1;s3,0");
        for (int ink : NO_INKS) {
            Edge.refused(two, "inCell(3, " + ink + ")", HIDDEN);
        }
        // by the last five bits of a shift these would be 0
        Edge.refused(two, "inCell(3, 32)", HIDDEN);
        Edge.refused(two, "inCell(3, -32)", HIDDEN);
        for (int set : new int[] {0, 4, 5, 7, 8, 9, 16, 17, -1, Integer.MIN_VALUE, Integer.MAX_VALUE}) {
            Edge.refused(two, "inCell(" + set + ", 0)", HIDDEN);
        }
        Edge.refused(Edge.inks("s2,1;s3,0;s1,1;s2,0"), "inCell(17, 0)", HIDDEN);
        Edge.refused(Edge.inks("s2,1;s3,0;s1,1;s2,0"), "inCell(15, 4)", HIDDEN);
        Edge.refused(Edge.inks("s2,1;s3,0;s1,1;s2,0"), "inCell(31, 4)", HIDDEN);
        Edge.refused(DotScreens::new, "inCell(1, 0)", HIDDEN);

        Edge.of(21, "it is not of these.");
        Edge.refused(two, "inCell(2, 0)", HIDDEN);
        Edge.refused(two, "inCell(1, 1)", HIDDEN);
        Edge.refused(Edge.inks("s2,1;s3,0;s1,1;s2,0"), "inCell(7, 3)", HIDDEN);
        Edge.refused(Edge.inks("s2,1;s3,0;s1,1;s2,0"), "inCell(14, 0)", HIDDEN);
    }
}
