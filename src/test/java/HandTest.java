import java.util.Random;

/** Promises 28 to 34: what is told anew by hand, and what was refused. */
public final class HandTest {
    private static final int NONE = DotScreens.NONE;

    public static void main(String[] args) {
        screens();
        shapes();
        tones();
        offsets();
        swapsAndDrops();
        statusStays();
        changesAreAsTold();
        Check.end();
    }

    private static void status(DotScreens x, int notThere, int outOfBounds, int isSo) {
        Check.due("status(0)", x.status(0), notThere);
        Check.due("status(1)", x.status(1), outOfBounds);
        Check.due("status(2)", x.status(2), isSo);
    }

    private static void screens() {
        DotScreens x = Check.told("s2,1");
        Check.due("it is so", x.screen(0, 2, 1, -1, 2), NONE);
        status(x, 0, 0, 1);
        Check.due("no such ink is first", x.screen(1, 99, 1, -1, 2), NONE);
        Check.due("no such ink", x.screen(-1, 2, 1, -1, 2), NONE);
        status(x, 2, 0, 1);
        int[][] wrong = {{13, 0, 0, 1}, {-13, 0, 0, 1}, {1, 13, 0, 1}, {1, 0, -13, 1}, {1, 0, 0, 13}, {0, 0, 1, 1},
            {2, 4, 1, 2}, {12, 1, -1, 12}, {12, 12, -12, 12}, {Integer.MIN_VALUE, 0, 0, Integer.MAX_VALUE}};
        for (int[] w : wrong) {
            Check.due("out of bounds", x.screen(0, w[0], w[1], w[2], w[3]), NONE);
        }
        status(x, 2, wrong.length, 1);
        Check.due("the same grid by other pairs", x.screen(0, 2, 1, 1, -2), 5);
        Check.due("the greatest cell", x.screen(0, 12, 0, 0, -12), 5);
        Check.due("cell", x.ink(0, 4), 144);
        Check.due("back", x.screen(0, 1, 0, 0, 1), 144);
        Check.due("all else stays", x.ink(0, 6), 50);
        status(x, 2, wrong.length, 1);
    }

    private static void shapes() {
        DotScreens x = Check.told("s3,1d");
        Check.due("shape", x.shape(0, 2), 1);
        Check.due("ink", x.ink(0, 5), 2);
        Check.due("shape", x.shape(0, 0), 2);
        Check.due("it is so", x.shape(0, 0), NONE);
        Check.due("out of bounds", x.shape(0, 3), NONE);
        Check.due("out of bounds", x.shape(0, -1), NONE);
        Check.due("no such ink", x.shape(1, 3), NONE);
        status(x, 1, 2, 1);
    }

    private static void tones() {
        DotScreens x = Check.told("s3,1");
        Check.due("tone", x.tone(0, 100), 50);
        Check.due("tone", x.tone(0, 0), 100);
        Check.due("level", x.ink(0, 7), 0);
        Check.due("it is so", x.tone(0, 0), NONE);
        Check.due("out of bounds", x.tone(0, -1), NONE);
        Check.due("out of bounds", x.tone(0, 101), NONE);
        Check.due("no such ink", x.tone(-1, 101), NONE);
        status(x, 1, 2, 1);
    }

    private static void offsets() {
        DotScreens x = Check.told("s3,1o5,-6");
        Check.due("moved", x.offset(0, -99, 99), 209);
        Check.due("X", x.ink(0, 8), -99);
        Check.due("Y", x.ink(0, 9), 99);
        Check.due("moved", x.offset(0, 99, -99), 396);
        Check.due("moved along Y alone", x.offset(0, 99, -98), 1);
        Check.due("it is so", x.offset(0, 99, -98), NONE);
        Check.due("out of bounds", x.offset(0, 100, 0), NONE);
        Check.due("out of bounds", x.offset(0, -100, 0), NONE);
        Check.due("out of bounds", x.offset(0, 0, 100), NONE);
        Check.due("out of bounds", x.offset(0, 0, -100), NONE);
        Check.due("out of bounds", x.offset(0, Integer.MIN_VALUE, Integer.MIN_VALUE), NONE);
        Check.due("no such ink", x.offset(4, 100, 0), NONE);
        status(x, 1, 5, 1);
    }

    private static void cells(DotScreens x, int... cells) {
        Check.due("count", x.count(0), cells.length);
        for (int i = 0; i < cells.length; i++) {
            Check.due("cell", x.ink(i, 4), cells[i]);
            Check.due("ranks are the ink's own", x.dots(i, cells[i]), 1);
            Check.due("ranks are the ink's own", x.dots(i, cells[i] + 1), NONE);
        }
        Check.dueNoInk(x, cells.length, 4);
    }

    private static void swapsAndDrops() {
        DotScreens x = Check.told("s1,0;s1,1;s2,0;s3,0");
        cells(x, 1, 2, 4, 9);
        Check.due("swap", x.swap(0, 3), true);
        cells(x, 9, 2, 4, 1);
        Check.due("swap", x.swap(2, 1), true);
        cells(x, 9, 4, 2, 1);
        Check.due("both are one", x.swap(2, 2), false);
        Check.due("no such one", x.swap(2, 4), false);
        Check.due("no such one", x.swap(-1, 2), false);
        Check.due("no such one goes first", x.swap(4, 4), false);
        status(x, 3, 0, 1);
        Check.due("drop", x.drop(1), 3);
        cells(x, 9, 2, 1);
        Check.due("no such one", x.drop(3), NONE);
        Check.due("no such one", x.drop(-1), NONE);
        status(x, 5, 0, 1);
        Check.due("drop", x.drop(2), 2);
        Check.due("drop", x.drop(0), 1);
        cells(x, 2);
        Check.due("drop", x.drop(0), 0);
        Check.due("drop", x.drop(0), NONE);
        status(x, 6, 0, 1);
        Check.feed(x, "s2,2;s3,3;s1,2;s1,3");
        Check.due("text", x.text(), 4);
        cells(x, 8, 18, 5, 10);
    }

    private static void statusStays() {
        DotScreens x = new DotScreens();
        Check.due("tone", x.tone(0, 500), NONE);
        Check.due("swap", x.swap(0, 0), false);
        Check.feed(x, "s1,1");
        Check.due("text", x.text(), 1);
        x.rank(5, 0, 0);
        x.dots(0, 99);
        x.window(0, 0, 99, 99, 0, 0);
        Check.due("end", x.end(9), false);
        status(x, 2, 0, 0);
        Check.due("status(3)", x.status(3), NONE);
        Check.due("status(-1)", x.status(-1), NONE);
    }

    /** An object changed by hand answers as a new one that is told the same. */
    private static void changesAreAsTold() {
        Random random = new Random(13);
        for (int run = 0; run < 60; run++) {
            DotScreens x = Check.told("s2,1;s3,0d;s1,2l;s4,3");
            for (int i = 0; i < 12; i++) {
                change(x, random);
                same(x, retold(x), random);
            }
        }
    }

    private static void change(DotScreens x, Random random) {
        int ink = random.nextInt(4);
        switch (random.nextInt(7)) {
            case 0:
                Plain p = InkTest.randomInk(random, 144);
                x.screen(ink, p.a, p.b, p.c, p.d);
                break;
            case 1: x.shape(ink, random.nextInt(3)); break;
            case 2: x.tone(ink, random.nextInt(101)); break;
            case 3: x.offset(ink, random.nextInt(199) - 99, random.nextInt(199) - 99); break;
            case 4:
            case 5: x.swap(ink, random.nextInt(4)); break;
            default:
                if (random.nextInt(3) == 0) {
                    x.drop(ink);
                }
        }
    }

    private static DotScreens retold(DotScreens x) {
        StringBuilder text = new StringBuilder();
        for (int i = 0; i < x.count(0); i++) {
            text.append(i > 0 ? ";s" : "s");
            for (int what = 0; what < 4; what++) {
                text.append(what > 0 ? "," : "").append(x.ink(i, what));
            }
            text.append("rdl".charAt(x.ink(i, 5))).append('t').append(x.ink(i, 6));
            text.append('o').append(x.ink(i, 8)).append(',').append(x.ink(i, 9));
        }
        return Check.told(text.toString());
    }

    private static void same(DotScreens x, DotScreens y, Random random) {
        Check.due("count", x.count(0), y.count(0));
        for (int what = 0; what < 7; what++) {
            Check.due("most", x.most(what), y.most(what));
        }
        for (int i = 0; i < x.count(0); i++) {
            int px = random.nextInt(40) - 20;
            int py = random.nextInt(40) - 20;
            int level = random.nextInt(x.ink(i, 4) + 1);
            Check.due("rank", x.rank(i, px, py), y.rank(i, px, py));
            Check.due("spot", x.spot(i, px, py), y.spot(i, px, py));
            Check.due("inked", x.inked(i, px, py), y.inked(i, px, py));
            Check.due("dots", x.dots(i, level), y.dots(i, level));
            Check.due("touch", x.grown(i, 0), y.grown(i, 0));
            Check.due("solid", x.grown(i, 1), y.grown(i, 1));
            Check.due("overlay", x.overlay(px, py), y.overlay(px, py));
            Check.due("window", x.window(px, py, 9, 9, 0, 1), y.window(px, py, 9, 9, 0, 1));
            Check.due("next", x.next(px, py, 1), y.next(px, py, 1));
            Check.due("reduced", x.reduced(i, 2), y.reduced(i, 2));
            Check.due("bestTurn", x.bestTurn(i, 0), y.bestTurn(i, 0));
            Check.due("far", x.far(0, i, 0), y.far(0, i, 0));
            Check.due("common", x.common(1 | 1 << i, 4), y.common(1 | 1 << i, 4));
        }
    }
}
