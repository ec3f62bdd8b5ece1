import java.util.List;
import java.util.Random;

/** Promises 22 to 25: pixels that inks share. */
public final class OverlayTest {
    private static final int NONE = DotScreens.NONE;

    public static void main(String[] args) {
        Random random = new Random(11);
        for (int i = 0; i < 120; i++) {
            List<Plain> plains = CouplesTest.randomInks(random, i % 5);
            DotScreens x = CouplesTest.told(plains);
            overlays(x, plains, random);
            windows(x, plains.size(), random);
            nexts(x, random);
        }
        noInks();
        bounds();
        Check.end();
    }

    private static void overlays(DotScreens x, List<Plain> plains, Random random) {
        for (int i = 0; i < 30; i++) {
            int px = i == 0 ? 9999 : i == 1 ? -9999 : random.nextInt(100) - 50;
            int py = i == 2 ? 9999 : i == 3 ? -9999 : random.nextInt(100) - 50;
            int set = 0;
            for (int j = 0; j < plains.size(); j++) {
                set |= plains.get(j).inked(px, py) ? 1 << j : 0;
            }
            Check.due("overlay", x.overlay(px, py), set);
        }
    }

    private static int corner(Random random) {
        return random.nextInt(5) == 0 ? (random.nextBoolean() ? 999 : -999) : random.nextInt(1999) - 999;
    }

    private static void windows(DotScreens x, int inks, Random random) {
        for (int n = 0; n < 4; n++) {
            int px = corner(random);
            int py = corner(random);
            int w = n == 0 ? 32 : 1 + random.nextInt(32);
            int h = n == 0 ? 32 : 1 + random.nextInt(32);
            int[] bySet = new int[16];
            int[] byCount = new int[5];
            int densest = 0;
            for (int i = 0; i < w; i++) {
                for (int j = 0; j < h; j++) {
                    int set = x.overlay(px + i, py + j);
                    bySet[set]++;
                    byCount[Integer.bitCount(set)]++;
                    densest = Math.max(densest, Integer.bitCount(set));
                }
            }
            for (int k = 0; k < 16; k++) {
                Check.due("window by set", x.window(px, py, w, h, 1, k), k < 1 << inks ? bySet[k] : NONE);
            }
            for (int k = 0; k < 5; k++) {
                Check.due("window by count", x.window(px, py, w, h, 0, k), k <= inks ? byCount[k] : NONE);
            }
            Check.due("densest", x.densest(px, py, w, h), densest);
        }
    }

    private static void nexts(DotScreens x, Random random) {
        for (int set = 0; set < 16; set++) {
            int px = corner(random);
            int py = corner(random);
            int found = NONE;
            for (int i = 0; i <= 999 && found == NONE; i++) {
                found = x.overlay(px + i, py) == set ? i : NONE;
            }
            Check.due("next", x.next(px, py, set), found);
        }
    }

    private static void noInks() {
        DotScreens x = new DotScreens();
        Check.due("overlay", x.overlay(3, 4), 0);
        Check.due("window", x.window(0, 0, 3, 4, 0, 0), 12);
        Check.due("window", x.window(0, 0, 3, 4, 1, 0), 12);
        Check.due("window", x.window(0, 0, 3, 4, 0, 1), NONE);
        Check.due("window", x.window(0, 0, 3, 4, 1, 1), NONE);
        Check.due("densest", x.densest(0, 0, 3, 4), 0);
        Check.due("next", x.next(0, 0, 0), 0);
        Check.due("next", x.next(0, 0, 15), NONE);
    }

    private static void bounds() {
        DotScreens x = Check.told("s12,0;s11,0;s9,2");
        for (int[] p : new int[][] {{10000, 0}, {-10000, 0}, {0, 10000}, {0, -10000}}) {
            Check.due("overlay", x.overlay(p[0], p[1]), NONE);
        }
        int[][] wrong = {{1000, 0, 1, 1}, {-1000, 0, 1, 1}, {0, 1000, 1, 1}, {0, -1000, 1, 1}, {0, 0, 0, 1},
            {0, 0, 1, 0}, {0, 0, 33, 1}, {0, 0, 1, 33}, {0, 0, -1, 1}, {Integer.MAX_VALUE, 0, 1, 1}};
        for (int[] w : wrong) {
            Check.due("window", x.window(w[0], w[1], w[2], w[3], 0, 0), NONE);
            Check.due("densest", x.densest(w[0], w[1], w[2], w[3]), NONE);
            if (w[2] == 1 && w[3] == 1) {
                Check.due("next", x.next(w[0], w[1], x.overlay(0, 0)), NONE);
            }
        }
        Check.due("window what", x.window(0, 0, 1, 1, 2, 0), NONE);
        Check.due("window what", x.window(0, 0, 1, 1, -1, 0), NONE);
        Check.due("window k", x.window(0, 0, 1, 1, 0, 4), NONE);
        Check.due("window k", x.window(0, 0, 1, 1, 0, -1), NONE);
        Check.due("window set", x.window(0, 0, 1, 1, 1, -1), NONE);
        Check.due("window set", x.window(0, 0, 1, 1, 1, 8), NONE);
        Check.due("next set", x.next(0, 0, 16), NONE);
        Check.due("next set", x.next(0, 0, -1), NONE);
        farthestNext();
    }

    /** Four screens of one row, one pixel of each inked; moved so that all meet at 500 and once in 4620. */
    private static void farthestNext() {
        DotScreens x = Check.told("s11,0,0,1t9;s12,0,0,1t8;s7,0,0,1t14;s5,0,0,1t20");
        for (int ink = 0; ink < 4; ink++) {
            Check.due("one pixel of a row", x.ink(ink, 7), 1);
            x.offset(ink, Math.floorMod(500 - x.ranked(ink, 0, 0), x.brick(ink, 0)), 0);
        }
        Check.due("here", x.next(500, 0, 15), 0);
        Check.due("999 on", x.next(-499, 0, 15), 999);
        Check.due("1000 on", x.next(-500, 0, 15), NONE);
        Check.due("passed", x.next(501, 0, 15), NONE);
    }
}
