/** Boundary cases of what is asked of all inks: promise 35. */
final class MostEdges {
    private static final int NONE = Edge.NONE;

    private MostEdges() {
    }

    static void run() {
        couples();
        sums();
        grown();
        refused();
    }

    private static void most(int what, String text, int want) {
        Edge.due(Check.told(text), "most(" + what + ")", want);
    }

    private static void couples() {
        // 1, 2 and 2, 1 are 25/2 far, either and 2, 2 are 40, either and 3, 0 are 45/2, 2, 2 and 3, 0 are 72/5
        Edge.of(35, "Of all couples of INKS that whose FAR is least (0: 10 times the first one and the other one, "
                + "the first lower; ");
        most(0, "s1,2;s2,1", 1);
        most(0, "s1,2;s2,1;s2,2;s3,0", 1);
        most(0, "s2,2;s3,0;s1,2;s2,1", 23);
        most(0, "s1,2;s2,2;s3,0;s2,1", 3);
        most(0, "s2,2;s1,2;s2,1;s3,0", 12);
        most(0, "s3,0;s1,2;s2,2", 2);
        // an alike couple by its shortest difference that is not 0: 3, 0 twice is 9/2 far
        most(0, "s1,2;s3,0;s2,1;s3,0", 13);

        Edge.of(35, "of several the first), ");
        most(0, "s3,0;s3,0;s3,0;s3,0", 1);
        most(0, "s2,2;s1,2;s1,2;s1,2", 12);
        most(1, "s1,2;s2,1;s2,2;s3,0", 2);
        most(1, "s3,0;s3,0;s3,0;s3,0", 1);
        most(1, "s1,2;s3,0;s2,1;s3,0", 1);
        most(1, "s3,0;s2,2;s1,2;s2,1", 12);

        Edge.of(35, "greatest (1); ");
        most(1, "s1,2;s2,1", 1);
        most(1, "s3,0;s3,0;s1,2;s2,2", 23);
        most(1, "s1,2;s3,0;s3,0;s2,2", 3);
        most(1, "s3,0;s1,2;s3,0;s2,2", 13);

        Edge.of(35, "ALIKE couples (2; how many); ");
        most(2, "", 0);
        most(2, "s2,1", 0);
        most(2, "s2,1;s1,2", 0);
        most(2, "s2,1;s2,1", 1);
        most(2, "s2,1;s2,1,1,-2;s-1,2", 3);
        most(2, "s2,1;s1,2;s2,1;s1,2", 2);
        most(2, "s2,1;s2,1o1,1;s2,1l;s2,1t0", 6);
    }

    private static void sums() {
        Edge.of(35, "of all INKS the greatest CELL (3), ");
        most(3, "", 0);
        most(3, "s1,0", 1);
        most(3, "s12,0;s2,1", 144);
        most(3, "s2,1;s3,0;s1,1;s12,0,0,-12", 144);
        most(3, "s2,1;s3,0;s1,1", 9);

        Edge.of(35, "PIXELS of all CELLS that are INKED, added up (4), ");
        most(4, "", 0);
        most(4, "s12,0t0;s1,0t49", 0);
        most(4, "s12,0t0;s1,0t50", 1);
        most(4, "s12,0t100;s12,0t100;s12,0t100;s12,0t100", 576);
        most(4, "s2,1;s3,0;s4,0t12", 10);
    }

    private static void grown() {
        // 4, 0: a LEVEL of 6 touches, one of 9 is solid; the tone ahead gives one less
        Edge.of(35, "INKS whose DOTS touch as they are (5, bits), ");
        most(5, "", 0);
        most(5, "s4,0t34", 0);
        most(5, "s4,0t35", 1);
        most(5, "s4,0t34;s4,0t35;s4,0t100;s4,0t0", 6);
        most(5, "s1,0t50;s1,0t49;s1,0t0;s1,0t100", 9);
        most(5, "s1,0;s1,0;s1,0;s1,0", 15);

        Edge.of(35, "that are SOLID (6, bits). ");
        most(6, "", 0);
        most(6, "s4,0t53", 0);
        most(6, "s4,0t54", 1);
        most(6, "s4,0t53;s4,0t54;s4,0t100;s4,0t35", 6);
        most(6, "s1,0t50;s1,0t49;s1,0t0;s1,0t100", 9);
        // touching alone, though at all of a line
        most(5, "s1,0,0,12t95", 1);
        most(6, "s1,0,0,12t95", 0);
        most(6, "s1,0,0,12t96", 1);
    }

    private static void refused() {
        Edge.of(35, "NONE: none (of 0, 1), ");
        Edge.refused(DotScreens::new, "most(0)", NONE);
        Edge.refused(DotScreens::new, "most(1)", NONE);
        Edge.refused(Edge.inks("s2,1"), "most(0)", NONE);
        Edge.refused(Edge.inks("s2,1"), "most(1)", NONE);
        Edge.dueRow(new DotScreens(), "most(#)", NONE, NONE, 0, 0, 0, 0, 0, NONE);
        Edge.dueRow(Check.told("s2,1"), "most(#)", NONE, NONE, 0, 5, 3, 1, 0, NONE);

        Edge.of(35, "no such what.");
        for (int what : new int[] {-1, 7, Integer.MIN_VALUE, Integer.MAX_VALUE}) {
            Edge.refused(DotScreens::new, "most(" + what + ")", NONE);
            Edge.refused(Edge.inks("s2,1;s3,0"), "most(" + what + ")", NONE);
        }
    }
}
