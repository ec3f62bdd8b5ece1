import java.util.List;
import java.util.Random;

/** Promises 7 to 16: one ink's brick, homes, spots, ranks, dots, growth and slope, against the plain words. */
public final class InkTest {
    private static final int NONE = DotScreens.NONE;
    private static final int HIDDEN = DotScreens.HIDDEN;

    public static void main(String[] args) {
        Random random = new Random(7);
        for (int i = 0; i < 400; i++) {
            Plain p = randomInk(random, 144);
            DotScreens x = Check.told(p.clause());
            brickAndReduced(x, p);
            homes(x, p, random);
            ranks(x, p, random);
            slopes(x, p);
        }
        everyPairReduced();
        for (int i = 0; i < 250; i++) {
            growth(randomInk(random, 24), 60);
        }
        for (int i = 0; i < 25; i++) {
            growth(randomInk(random, 144), 90);
        }
        edges();
        noSuchOnes();
        Check.end();
    }

    static Plain randomInk(Random random, int cellMost) {
        while (true) {
            int most = random.nextInt(3) == 0 ? 3 : 12;
            int a = random.nextInt(2 * most + 1) - most;
            int b = random.nextInt(2 * most + 1) - most;
            boolean isSquare = random.nextInt(3) == 0;
            int c = isSquare ? -b : random.nextInt(2 * most + 1) - most;
            int d = isSquare ? a : random.nextInt(2 * most + 1) - most;
            int cell = Math.abs(a * d - b * c);
            if (cell > 0 && cell <= cellMost) {
                return new Plain(a, b, c, d, random.nextInt(3), random.nextInt(101),
                        random.nextInt(199) - 99, random.nextInt(199) - 99);
            }
        }
    }

    private static void brickAndReduced(DotScreens x, Plain p) {
        int[] brick = {p.wide, p.high, p.slant};
        for (int what = 0; what < 3; what++) {
            Check.due("brick " + what + " of " + p.clause(), x.brick(0, what), brick[what]);
        }
        int[] reduced = p.reduced();
        for (int what = 0; what < 4; what++) {
            Check.due("reduced " + what + " of " + p.clause(), x.reduced(0, what), reduced[what]);
        }
    }

    private static void everyPairReduced() {
        for (int a = -3; a <= 3; a++) {
            for (int b = -3; b <= 3; b++) {
                for (int c = -3; c <= 3; c++) {
                    for (int d = -3; d <= 3; d++) {
                        if (a * d - b * c != 0) {
                            Plain p = new Plain(a, b, c, d, 0, 50, 0, 0);
                            DotScreens x = Check.told(p.clause());
                            brickAndReduced(x, p);
                            slopes(x, p);
                        }
                    }
                }
            }
        }
    }

    private static int pixel(Random random) {
        switch (random.nextInt(4)) {
            case 0: return random.nextInt(2) == 0 ? 9999 : -9999;
            case 1: return random.nextInt(19999) - 9999;
            default: return random.nextInt(60) - 30;
        }
    }

    private static void homes(DotScreens x, Plain p, Random random) {
        for (int i = 0; i < 20; i++) {
            int px = pixel(random);
            int py = pixel(random);
            int[] home = p.home(px, py);
            String where = px + ", " + py + " of " + p.clause();
            Check.due("home X " + where, x.home(0, px, py, 0), home[0]);
            Check.due("home Y " + where, x.home(0, px, py, 1), home[1]);
            Check.due("spot " + where, x.spot(0, px, py), p.spot(home[0], home[1]));
            Check.due("rank " + where, x.rank(0, px, py), p.rank(px, py));
            Check.due("inked " + where, x.inked(0, px, py), p.inked(px, py));
        }
    }

    private static void ranks(DotScreens x, Plain p, Random random) {
        List<int[]> homes = p.ranked();
        for (int i = 0; i < p.cell; i++) {
            Check.due("ranked X of " + p.clause(), x.ranked(0, i, 0), homes.get(i)[0]);
            Check.due("ranked Y of " + p.clause(), x.ranked(0, i, 1), homes.get(i)[1]);
        }
        Check.due("ranked beyond", x.ranked(0, p.cell, 0), HIDDEN);
        // the spot is that of the pixel itself, not only of its home
        int px = random.nextInt(41) - 20;
        int py = random.nextInt(41) - 20;
        Check.due("spot of " + p.clause(), x.spot(0, px + p.offsetX, py + p.offsetY), p.spot(px, py));
    }

    private static void slopes(DotScreens x, Plain p) {
        Check.due("slope X of " + p.clause(), x.slope(0, 0), p.slope()[0]);
        Check.due("slope Y of " + p.clause(), x.slope(0, 1), p.slope()[1]);
    }

    private static void growth(Plain p, int bound) {
        DotScreens x = Check.told(p.clause());
        int touch = NONE;
        int solid = NONE;
        for (int level = 0; level <= p.cell; level++) {
            int[] grown = p.grown(level, bound);
            Check.due("dots at " + level + " of " + p.clause(), x.dots(0, level), grown[0]);
            touch = touch == NONE && grown[1] > 0 ? level : touch;
            solid = solid == NONE && grown[1] > 1 ? level : solid;
        }
        Check.due("touch of " + p.clause(), x.grown(0, 0), touch);
        Check.due("solid of " + p.clause(), x.grown(0, 1), solid);
        int level = p.level();
        Check.due("most(5) of " + p.clause(), x.most(5), level >= touch ? 1 : 0);
        Check.due("most(6) of " + p.clause(), x.most(6), level >= solid ? 1 : 0);
    }

    private static void edges() {
        DotScreens x = Check.told("s4,0");
        Check.due("spot at a corner", x.spot(0, 0, 0), 2);
        Check.due("spot in the middle", x.spot(0, 1, 1), 18);
        Check.due("rank ties by Y, then X", x.rank(0, 3, 0), 1);
        Check.due("rank ties by Y, then X", x.rank(0, 0, 3), 2);
        Check.due("dots of a corner are one", x.dots(0, 4), 1);
        Check.due("dots at two", x.dots(0, 2), 1);
        Check.due("dots(16)", x.dots(0, 16), 1);
        Check.due("dots(0)", x.dots(0, 0), 0);
        Check.due("the tone's bounds", x.tone(0, 0), 50);
        Check.due("nothing inked", x.inked(0, 0, 0), false);
        x.tone(0, 100);
        for (int i = 0; i < 16; i++) {
            Check.due("all inked", x.inked(0, i % 4, i / 4), true);
        }
        DotScreens thin = Check.told("s1,0,0,12");
        Check.due("a home beside itself", thin.grown(0, 0), 1);
        Check.due("solid when the column is full", thin.grown(0, 1), 12);
        Check.due("turned", Check.told("s0,12,1,0").brick(0, 0), 1);
    }

    private static void noSuchOnes() {
        DotScreens x = Check.told("s2,1");
        int[][] wrong = {{-1, 0}, {1, 0}, {0, -1}, {0, 4}, {4, 0}, {Integer.MAX_VALUE, 0}};
        for (int[] w : wrong) {
            Check.due("brick", x.brick(w[0], w[1]), HIDDEN);
            Check.due("reduced", x.reduced(w[0], w[1]), HIDDEN);
            Check.due("slope", x.slope(w[0], w[1]), HIDDEN);
            Check.due("grown", x.grown(w[0], w[1]), NONE);
            Check.due("home", x.home(w[0], 0, 0, w[1]), HIDDEN);
            Check.due("ranked", x.ranked(w[0], 0, w[1]), HIDDEN);
        }
        Check.due("brick", x.brick(0, 3), HIDDEN);
        Check.due("grown", x.grown(0, 2), NONE);
        Check.due("slope", x.slope(0, 2), HIDDEN);
        Check.due("home", x.home(0, 0, 0, 2), HIDDEN);
        Check.due("ranked", x.ranked(0, 0, 2), HIDDEN);
        Check.due("ranked", x.ranked(0, -1, 0), HIDDEN);
        Check.due("ranked", x.ranked(0, 5, 0), HIDDEN);
        Check.due("dots", x.dots(0, -1), NONE);
        Check.due("dots", x.dots(0, 6), NONE);
        Check.due("dots", x.dots(1, 0), NONE);
        int[][] beyond = {{10000, 0}, {-10000, 0}, {0, 10000}, {0, -10000}, {Integer.MIN_VALUE, 0}};
        for (int[] p : beyond) {
            Check.due("home", x.home(0, p[0], p[1], 0), HIDDEN);
            Check.due("spot", x.spot(0, p[0], p[1]), NONE);
            Check.due("rank", x.rank(0, p[0], p[1]), NONE);
            x.tone(0, 100);
            Check.due("inked", x.inked(0, p[0], p[1]), false);
        }
        for (int ink : new int[] {-1, 1, 4}) {
            Check.due("spot", x.spot(ink, 0, 0), NONE);
            Check.due("rank", x.rank(ink, 0, 0), NONE);
            Check.due("inked", x.inked(ink, 0, 0), false);
        }
    }
}
