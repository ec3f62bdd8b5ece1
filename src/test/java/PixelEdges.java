import java.util.function.Supplier;

/** Boundary cases of pixels that inks share: promises 22 to 25. */
final class PixelEdges {
    private static final int NONE = Edge.NONE;
    private static final int TERMS = Edge.TERMS;
    /** One pixel in 144 takes ink: those whose X and Y are by 12. */
    private static final String SPARSE = "s12,0t1";

    private PixelEdges() {
    }

    static void run() {
        overlays();
        windows();
        windowsBeyond();
        densest();
        nexts();
    }

    private static void overlays() {
        Edge.of(TERMS, "OVERLAY of a PIXEL: INKS that are INKED there (bits). ");
        for (int set = 0; set < 16; set++) {
            StringBuilder text = new StringBuilder();
            for (int i = 0; i < 4; i++) {
                text.append(i > 0 ? ";" : "").append("s1,").append(i).append((set >> i & 1) == 1 ? "t100" : "t0");
            }
            Edge.due(Check.told(text.toString()), "overlay(-5, 7)", set);
        }
        Edge.due(new DotScreens(), "overlay(9999, 9999)", 0);
        Edge.dueRow(Check.told("s1,0t0;s4,0o1,0"), "overlay(#, 0)", 2, 2, 2, 2, 2);
        Edge.dueRow(Check.told("s1,0t0;s4,0o1,0t12"), "overlay(#, 0)", 2, 2, 0, 0, 2);

        Edge.of(22, "OVERLAY of a PIXEL. ");
        DotScreens x = Check.told(SPARSE + "o3,9;s1,0t100");
        Edge.due(x, "overlay(9999, 9999)", 2);
        Edge.due(x, "overlay(9999, -9999)", 3);
        Edge.due(x, "overlay(-9999, -9999)", 2);
        Edge.due(x, "overlay(9999, 9993)", 3);
        Edge.due(x, "overlay(-9993, -9999)", 3);
        Edge.due(x, "overlay(-9993, 9993)", 3);

        Edge.of(22, "NONE: beyond -9999 .. 9999.");
        Supplier<DotScreens> inks = Edge.inks("s2,1t100;s3,0");
        for (int n : new int[] {10000, -10000, Integer.MAX_VALUE, Integer.MIN_VALUE}) {
            Edge.refused(inks, "overlay(" + n + ", 0)", NONE);
            Edge.refused(inks, "overlay(0, " + n + ")", NONE);
            Edge.refused(inks, "overlay(" + n + ", " + n + ")", NONE);
            Edge.refused(DotScreens::new, "overlay(" + n + ", 0)", NONE);
        }
    }

    private static void window(DotScreens x, String window, int want) {
        Edge.due(x, "window(" + window + ", 0, 1)", want);
        Edge.due(x, "window(" + window + ", 1, 1)", want);
    }

    private static void windows() {
        Edge.of(TERMS, "In a WINDOW from x, y on, w by h PIXELS (1 .. 32): ");
        DotScreens x = Check.told(SPARSE);
        window(x, "0, 0, 1, 1", 1);
        window(x, "1, 0, 1, 1", 0);
        window(x, "-11, -11, 12, 12", 1);
        window(x, "-11, -11, 11, 12", 0);
        window(x, "-11, -11, 12, 11", 0);
        window(x, "1, 1, 11, 11", 0);
        window(x, "0, 0, 13, 12", 2);
        window(x, "0, 0, 12, 13", 2);
        window(x, "0, 0, 13, 13", 4);
        window(x, "0, 0, 32, 1", 3);
        window(x, "0, 0, 1, 32", 3);
        window(x, "4, 4, 32, 32", 4);
        window(x, "5, 5, 32, 32", 9);
        window(x, "999, 999, 32, 32", 4);
        window(x, "-999, -999, 32, 32", 9);
        window(x, "999, -999, 32, 32", 6);
        window(x, "999, 996, 1, 1", 0);
        Edge.due(x, "offset(0, 3, 3)", 6);
        window(x, "999, 999, 1, 1", 1);
        window(x, "-993, -993, 1, 1", 1);

        Edge.of(TERMS, "how many PIXELS have just k INKS; ");
        DotScreens three = Check.told("s1,0t100;s1,1t0;s2,1t100");
        Edge.dueRow(three, "window(3, 4, 7, 5, 0, #)", 0, 0, 35, 0, NONE);
        Edge.dueRow(Check.told("s1,0t100;s1,1t100;s2,1t100;s3,0t100"), "window(3, 4, 32, 32, 0, #)", 0, 0, 0, 0, 1024, NONE);
        Edge.dueRow(Check.told("s1,0t0"), "window(3, 4, 1, 1, 0, #)", 1, 0, NONE);
        Edge.dueRow(new DotScreens(), "window(3, 4, 32, 32, 0, #)", 1024, NONE);

        Edge.of(TERMS, "a set of INKS (bits) exactly; ");
        Edge.dueRow(three, "window(3, 4, 7, 5, 1, #)", 0, 0, 0, 0, 0, 35, 0, 0, NONE);
        Edge.dueRow(Check.told("s1,0t100;s1,1t0;s2,1t0;s3,0t100"), "window(3, 4, 2, 3, 1, #)", 0, 0, 0, 0, 0, 0, 0, 0, 0, 6, 0,
                0, 0, 0, 0, 0, NONE);
        Edge.dueRow(new DotScreens(), "window(3, 4, 32, 32, 1, #)", 1024, NONE);

        Edge.of(23, "A WINDOW: PIXELS with just k INKS (what 0), with just that set (1). ");
        DotScreens both = Check.told(SPARSE + ";s1,0t100");
        Edge.dueRow(both, "window(0, 0, 12, 12, 0, #)", 0, 143, 1, NONE);
        Edge.dueRow(both, "window(0, 0, 12, 12, 1, #)", 0, 0, 143, 1, NONE);
    }

    private static final String[] NO_WINDOWS = {"1000, 0, 1, 1", "-1000, 0, 1, 1", "0, 1000, 1, 1", "0, -1000, 1, 1",
        "0, 0, 0, 1", "0, 0, 1, 0", "0, 0, -1, 1", "0, 0, 1, -1", "0, 0, 33, 1", "0, 0, 1, 33", "2147483647, 0, 1, 1",
        "0, 2147483647, 1, 1", "-2147483648, 0, 1, 1", "0, -2147483648, 1, 1", "0, 0, 2147483647, 1",
        "0, 0, 1, 2147483647", "0, 0, -2147483648, 1", "0, 0, 1, -2147483648"};

    private static void windowsBeyond() {
        Supplier<DotScreens> inks = Edge.inks("s2,1;s3,0;s4,1");
        Edge.of(23, "NONE: out of bounds (x, y -999 .. 999; ");
        for (String window : NO_WINDOWS) {
            Edge.refused(inks, "window(" + window + ", 0, 0)", NONE);
            Edge.refused(inks, "window(" + window + ", 1, 0)", NONE);
        }
        Edge.refused(DotScreens::new, "window(1000, 0, 1, 1, 0, 0)", NONE);
        for (int what : new int[] {-1, 2, Integer.MIN_VALUE, Integer.MAX_VALUE}) {
            Edge.refused(inks, "window(0, 0, 1, 1, " + what + ", 0)", NONE);
        }
        Edge.of(23, "k not 0 to as many as there are INKS, ");
        for (int k : new int[] {-1, 4, 5, Integer.MIN_VALUE, Integer.MAX_VALUE}) {
            Edge.refused(inks, "window(0, 0, 1, 1, 0, " + k + ")", NONE);
        }
        Edge.refused(DotScreens::new, "window(0, 0, 1, 1, 0, 1)", NONE);
        Edge.refused(Edge.inks("s2,1;s3,0;s4,1;s1,0"), "window(0, 0, 1, 1, 0, 5)", NONE);
        Edge.of(23, "a set not of these).");
        for (int set : new int[] {-1, 8, 9, 15, 16, Integer.MIN_VALUE, Integer.MAX_VALUE}) {
            Edge.refused(inks, "window(0, 0, 1, 1, 1, " + set + ")", NONE);
        }
        Edge.refused(DotScreens::new, "window(0, 0, 1, 1, 1, 1)", NONE);
        Edge.refused(Edge.inks("s2,1;s3,0;s4,1;s1,0"), "window(0, 0, 1, 1, 1, 16)", NONE);
    }

    private static void densest() {
        Edge.of(TERMS, "the most INKS there are. ");
        Edge.due(new DotScreens(), "densest(0, 0, 32, 32)", 0);
        Edge.due(Check.told("s1,0t0;s1,1t0"), "densest(0, 0, 32, 32)", 0);
        Edge.due(Check.told("s1,0t100;s1,1t100;s2,1t100;s3,0t100"), "densest(0, 0, 1, 1)", 4);
        Edge.due(Check.told("s1,0t0;s1,1t100;s2,1t0;s3,0t100"), "densest(0, 0, 32, 1)", 2);

        Edge.of(24, "The most INKS at one PIXEL of a WINDOW. ");
        DotScreens x = Check.told(SPARSE + ";s1,0t100;s11,0,0,12t1");
        Edge.due(x, "densest(0, 0, 1, 1)", 3);
        Edge.due(x, "densest(1, 0, 10, 12)", 1);
        Edge.due(x, "densest(1, 0, 11, 12)", 2);
        Edge.due(x, "densest(-11, -11, 12, 12)", 3);
        Edge.due(x, "densest(-11, -11, 11, 12)", 2);
        Edge.due(x, "densest(-11, -11, 12, 11)", 1);
        Edge.due(x, "densest(1, 1, 32, 32)", 2);
        Edge.due(x, "densest(999, 999, 32, 32)", 2);
        Edge.due(x, "densest(-999, -999, 32, 32)", 2);

        Edge.of(24, "NONE: out of bounds.");
        for (String window : NO_WINDOWS) {
            Edge.refused(Edge.inks("s2,1;s3,0;s4,1"), "densest(" + window + ")", NONE);
        }
        Edge.refused(DotScreens::new, "densest(0, 0, 33, 1)", NONE);
    }

    /** Four screens of one row, one pixel of each inked; moved so that all meet at a pixel, and once in 4620. */
    private static DotScreens meetingAt(int pixel) {
        DotScreens x = Check.told("s11,0,0,1t9;s12,0,0,1t8;s7,0,0,1t14;s5,0,0,1t20");
        int[] wide = {11, 12, 7, 5};
        for (int ink = 0; ink < 4; ink++) {
            // the pixel of rank 0 is at 0, as no other one is nearer to a point
            x.offset(ink, Math.floorMod(pixel, wide[ink]), 0);
        }
        return x;
    }

    private static void nexts() {
        Edge.of(TERMS, "NEXT: in how many PIXELS to the right (0 .. 999) of one on the OVERLAY is a told set.");
        DotScreens x = Check.told(SPARSE);
        Edge.due(x, "next(0, 0, 1)", 0);
        Edge.due(x, "next(1, 0, 1)", 11);
        Edge.due(x, "next(-11, 0, 1)", 11);
        Edge.due(x, "next(-1, 0, 1)", 1);
        Edge.due(x, "next(0, 0, 0)", 1);
        Edge.due(x, "next(1, 0, 0)", 0);
        DotScreens meeting = meetingAt(500);
        Edge.due(meeting, "next(500, 0, 15)", 0);
        Edge.due(meeting, "next(499, -999, 15)", 1);
        Edge.due(meeting, "next(-499, 999, 15)", 999);
        // that set just: all four are not what three of them are
        Edge.due(meeting, "next(500, 0, 7)", 924);

        Edge.of(25, "NEXT. ");
        Edge.due(x, "next(999, 0, 1)", 9);
        Edge.due(x, "next(-999, 0, 1)", 3);
        Edge.due(x, "next(0, 996, 1)", 0);
        Edge.due(x, "offset(0, 3, 3)", 6);
        Edge.due(x, "next(0, 999, 1)", 3);
        Edge.due(x, "next(999, 999, 1)", 0);
        Edge.due(x, "offset(0, 9, 9)", 12);
        Edge.due(x, "next(-999, -999, 1)", 0);
        Edge.due(meetingAt(1998), "next(999, 0, 15)", 999);

        Edge.of(25, "NONE: not within 999, ");
        Edge.due(meeting, "next(-500, 0, 15)", NONE);
        Edge.due(meeting, "next(501, 0, 15)", NONE);
        Edge.refused(Edge.inks(SPARSE), "next(0, 1, 1)", NONE);
        Edge.refused(Edge.inks("s2,1t100"), "next(0, 0, 0)", NONE);
        Edge.refused(Edge.inks("s2,1t0"), "next(0, 0, 1)", NONE);
        // sets of inks that are not there are asked for in vain
        for (int set = 2; set <= 15; set++) {
            Edge.refused(Edge.inks("s2,1"), "next(0, 0, " + set + ")", NONE);
        }
        for (int set = 1; set <= 15; set++) {
            Edge.due(new DotScreens(), "next(0, 0, " + set + ")", NONE);
        }

        Edge.of(25, "out of bounds (x, y -999 .. 999, ");
        Supplier<DotScreens> all = Edge.inks("s2,1t100;s3,0t100");
        for (int n : new int[] {1000, -1000, Integer.MAX_VALUE, Integer.MIN_VALUE}) {
            Edge.refused(all, "next(" + n + ", 0, 3)", NONE);
            Edge.refused(all, "next(0, " + n + ", 3)", NONE);
            Edge.refused(DotScreens::new, "next(" + n + ", 0, 0)", NONE);
        }
        Edge.of(25, "a set 0 .. 15).");
        for (int set : new int[] {-1, 16, 19, Integer.MAX_VALUE, Integer.MIN_VALUE}) {
            Edge.refused(all, "next(0, 0, " + set + ")", NONE);
            Edge.refused(DotScreens::new, "next(0, 0, " + set + ")", NONE);
        }
        DotScreens four = Check.told("s1,0t100;s1,1t100;s2,1t100;s3,0t100");
        Edge.due(four, "next(0, 0, 15)", 0);
        Edge.due(four, "next(0, 0, 14)", NONE);
        Edge.due(four, "next(0, 0, 16)", NONE);
    }
}
