import java.math.BigInteger;
import java.util.ArrayList;
import java.util.List;
import java.util.Random;

/** Promises 17 to 19, 26, 27 and 35: turns, beats, FAR, screens chosen, couples at the ends. */
public final class CouplesTest {
    private static final int NONE = DotScreens.NONE;
    private static final int HIDDEN = DotScreens.HIDDEN;

    public static void main(String[] args) {
        Random random = new Random(3);
        for (int i = 0; i < 600; i++) {
            List<Plain> plains = randomInks(random, i % 5);
            DotScreens x = told(plains);
            couples(x, plains);
            mosts(x, plains);
            bestTurns(x, plains);
        }
        byHand();
        chosen();
        everySpan();
        noSuchOnes();
        Check.end();
    }

    static DotScreens told(List<Plain> plains) {
        DotScreens x = new DotScreens();
        StringBuilder text = new StringBuilder();
        for (Plain p : plains) {
            text.append(text.length() > 0 ? ";" : "").append(p.clause());
        }
        Check.feed(x, text.toString());
        Check.due("text of " + text, x.text(), plains.size());
        return x;
    }

    /** Some inks come twice or with V turned about, so that couples are alike. */
    static List<Plain> randomInks(Random random, int n) {
        List<Plain> plains = new ArrayList<>();
        for (int i = 0; i < n; i++) {
            Plain p = InkTest.randomInk(random, 144);
            if (i > 0 && random.nextInt(4) == 0) {
                Plain q = plains.get(random.nextInt(i));
                p = random.nextBoolean() ? q : new Plain(q.a, q.b, -q.c, -q.d, q.kind, q.tone, 1, 2);
            } else if (random.nextInt(3) == 0) {
                int a = p.a % 9;
                p = new Plain(a, 5, -5, a, 0, p.tone, 3, 4);
            }
            plains.add(p);
        }
        return plains;
    }

    private static void couples(DotScreens x, List<Plain> plains) {
        for (int i = 0; i < plains.size(); i++) {
            for (int j = 0; j < plains.size(); j++) {
                Plain p = plains.get(i);
                Plain q = plains.get(j);
                String who = " of " + p.clause() + " and " + q.clause();
                Check.due("turn X" + who, x.turn(i, j, 0), p.turn(q)[0]);
                Check.due("turn Y" + who, x.turn(i, j, 1), p.turn(q)[1]);
                for (int what = 0; what < 5; what++) {
                    Check.due("beat " + what + who, x.beat(i, j, what), i == j ? HIDDEN : p.beat(q)[what]);
                }
                BigInteger[] far = p.far(q);
                Check.due("upper" + who, x.far(i, j, 0), i == j ? HIDDEN : far[0].longValueExact());
                Check.due("lower" + who, x.far(i, j, 1), i == j ? HIDDEN : far[1].longValueExact());
                Check.due("root" + who, x.far(i, j, 2),
                        i == j ? HIDDEN : far[0].divide(far[1]).sqrt().longValueExact());
            }
        }
    }

    private static void mosts(DotScreens x, List<Plain> plains) {
        int least = NONE;
        int greatest = NONE;
        int alike = 0;
        int cell = 0;
        int pixels = 0;
        for (int i = 0; i < plains.size(); i++) {
            cell = Math.max(cell, plains.get(i).cell);
            pixels += plains.get(i).level();
            for (int j = i + 1; j < plains.size(); j++) {
                BigInteger[] far = plains.get(i).far(plains.get(j));
                alike += plains.get(i).beat(plains.get(j))[4];
                if (least == NONE || Plain.compare(far, farOf(plains, least)) < 0) {
                    least = 10 * i + j;
                }
                if (greatest == NONE || Plain.compare(far, farOf(plains, greatest)) > 0) {
                    greatest = 10 * i + j;
                }
            }
        }
        int[] want = {least, greatest, alike, cell, pixels};
        for (int what = 0; what < 5; what++) {
            Check.due("most(" + what + ")", x.most(what), want[what]);
        }
        Check.due("most(7)", x.most(7), NONE);
        Check.due("most(-1)", x.most(-1), NONE);
    }

    private static BigInteger[] farOf(List<Plain> plains, int couple) {
        return plains.get(couple / 10).far(plains.get(couple % 10));
    }

    private static void bestTurns(DotScreens x, List<Plain> plains) {
        for (int i = 0; i < plains.size(); i++) {
            Plain best = null;
            BigInteger[] bestLeast = null;
            boolean bestIsEndless = false;
            for (int a = 1; a <= 12 && plains.size() > 1; a++) {
                for (int b = 0; b <= 12; b++) {
                    if (a * a + b * b != plains.get(i).cell) {
                        continue;
                    }
                    Plain p = new Plain(a, b, -b, a, 0, 50, 0, 0);
                    BigInteger[] least = null;
                    for (int j = 0; j < plains.size(); j++) {
                        if (j != i && p.beat(plains.get(j))[4] == 0
                                && (least == null || Plain.compare(p.far(plains.get(j)), least) < 0)) {
                            least = p.far(plains.get(j));
                        }
                    }
                    boolean isBetter = best == null || !bestIsEndless
                            && (least == null || Plain.compare(least, bestLeast) > 0);
                    if (isBetter) {
                        best = p;
                        bestLeast = least;
                        bestIsEndless = least == null;
                    }
                }
            }
            Check.due("bestTurn A", x.bestTurn(i, 0), best == null ? NONE : best.a);
            Check.due("bestTurn B", x.bestTurn(i, 1), best == null ? NONE : best.b);
        }
    }

    private static void byHand() {
        DotScreens x = Check.told("s2,1;s2,1,1,-2;s3,4;s5,0");
        Check.due("with the sign of the cell", x.beat(0, 1, 4), 1);
        Check.due("turn with itself", x.turn(2, 2, 0), 1);
        Check.due("turn with itself", x.turn(2, 2, 1), 0);
        Check.due("one alike", x.most(2), 1);
        Check.due("three squares of 25, the others tell", x.bestTurn(2, 0) > 0, true);
        DotScreens twins = Check.told("s4,3;s3,4");
        Check.due("alike is best: nothing could be farther", twins.bestTurn(0, 0), 3);
        Check.due("alike is best: nothing could be farther", twins.bestTurn(0, 1), 4);
        Check.due("no square of a cell of 3", Check.told("s3,0,0,1;s1,1").bestTurn(0, 0), NONE);
        Check.due("no other ink", Check.told("s3,4").bestTurn(0, 0), NONE);
        Check.due("no inks: most(3)", new DotScreens().most(3), 0);
        Check.due("no inks: most(4)", new DotScreens().most(4), 0);
        Check.due("no inks: most(5)", new DotScreens().most(5), 0);
        Check.due("no inks: most(6)", new DotScreens().most(6), 0);
    }

    private static List<Plain> squares(int low, int high) {
        List<Plain> all = new ArrayList<>();
        for (int cell = low; cell <= high; cell++) {
            for (int a = 1; a <= 12; a++) {
                for (int b = 0; b <= 12; b++) {
                    if (a * a + b * b == cell) {
                        all.add(new Plain(a, b, -b, a, 0, 50, 0, 0));
                    }
                }
            }
        }
        return all;
    }

    private static void chosen() {
        DotScreens x = new DotScreens();
        int[][] spans = {{1, 1}, {1, 2}, {1, 3}, {1, 21}, {124, 144}, {144, 144}, {25, 25}, {65, 65}, {50, 65},
            {85, 100}, {60, 80}, {3, 3}, {6, 7}, {9, 5}, {30, 50}, {100, 120}, {5, 10}};
        for (int[] span : spans) {
            for (int n = 2; n <= 3; n++) {
                chosen(x, n, span[0], span[1], true);
                chosen(x, n, span[0], span[1], false);
            }
        }
    }

    /** One object asked for all spans in turn, so that no choice is that of the span ahead. */
    private static void everySpan() {
        DotScreens x = new DotScreens();
        for (int low = 1; low <= 144; low++) {
            int high = Math.min(low + 20, 144);
            chosen(x, 2, low, high, true);
            chosen(x, 2, low, high, false);
            chosen(x, 3, low, high, false);
            chosen(x, 3, low, high, true);
            chosen(x, 3, low, Math.max(low, high - 3), true);
        }
        for (int low = 5; low <= 25; low++) {
            chosen(x, 2, low, 25, true);
        }
        for (int high = 5; high <= 25; high++) {
            chosen(x, 2, 5, high, true);
        }
    }

    private static void chosen(DotScreens x, int n, int low, int high, boolean isFar) {
        List<Plain> all = squares(low, high);
        BigInteger[][][] fars = new BigInteger[all.size()][all.size()][];
        for (int i = 0; i < all.size(); i++) {
            for (int j = i + 1; j < all.size(); j++) {
                fars[i][j] = all.get(i).far(all.get(j));
            }
        }
        BigInteger[] best = null;
        int[] row = null;
        for (int i = 0; i < all.size(); i++) {
            for (int j = i + 1; j < all.size(); j++) {
                for (int k = j + (n == 3 ? 1 : 0); k < (n == 3 ? all.size() : j + 1); k++) {
                    BigInteger[] worst = fars[i][j];
                    if (n == 3) {
                        worst = worse(worse(worst, fars[i][k], isFar), fars[j][k], isFar);
                    }
                    int by = best == null ? 1 : Plain.compare(worst, best);
                    if (best == null || (isFar ? by > 0 : by < 0)) {
                        best = worst;
                        row = new int[] {i, j, k};
                    }
                }
            }
        }
        for (int i = 0; i < n; i++) {
            String call = "choose " + n + " of " + low + " to " + high + " " + isFar + ", " + i;
            Check.due(call, x.choose(n, low, high, isFar, i, 0), row == null ? NONE : all.get(row[i]).a);
            Check.due(call, x.choose(n, low, high, isFar, i, 1), row == null ? NONE : all.get(row[i]).b);
        }
    }

    private static BigInteger[] worse(BigInteger[] far, BigInteger[] other, boolean isFar) {
        return Plain.compare(far, other) < 0 == isFar ? far : other;
    }

    private static void noSuchOnes() {
        DotScreens x = Check.told("s2,1;s1,2");
        int[][] wrong = {{-1, 0, 0}, {0, -1, 0}, {2, 0, 0}, {0, 2, 0}, {0, 1, -1}, {0, 1, 5}};
        for (int[] w : wrong) {
            Check.due("turn", x.turn(w[0], w[1], w[2]), HIDDEN);
            Check.due("beat", x.beat(w[0], w[1], w[2]), HIDDEN);
            Check.due("far", x.far(w[0], w[1], w[2]), HIDDEN);
        }
        Check.due("turn", x.turn(0, 1, 2), HIDDEN);
        Check.due("far", x.far(0, 1, 3), HIDDEN);
        Check.due("far", x.far(1, 1, 0), HIDDEN);
        Check.due("bestTurn", x.bestTurn(2, 0), NONE);
        Check.due("bestTurn", x.bestTurn(-1, 0), NONE);
        Check.due("bestTurn", x.bestTurn(0, 2), NONE);
        Check.due("choose n", x.choose(1, 5, 9, true, 0, 0), NONE);
        Check.due("choose n", x.choose(4, 5, 9, true, 0, 0), NONE);
        Check.due("choose low", x.choose(2, 0, 9, true, 0, 0), NONE);
        Check.due("choose low", x.choose(2, -5, 9, true, 0, 0), NONE);
        Check.due("choose high", x.choose(2, 130, 145, true, 0, 0), NONE);
        Check.due("choose high", x.choose(2, 5, -9, true, 0, 0), NONE);
        Check.due("choose span", x.choose(2, 100, 121, true, 0, 0), NONE);
        Check.due("choose span", x.choose(2, 100, 120, true, 0, 0) != NONE, true);
        Check.due("choose i", x.choose(2, 5, 9, true, 2, 0), NONE);
        Check.due("choose i", x.choose(3, 5, 9, true, 2, 0) != NONE, true);
        Check.due("choose i", x.choose(2, 5, 9, true, -1, 0), NONE);
        Check.due("choose what", x.choose(2, 5, 9, true, 0, 2), NONE);
        Check.due("choose what", x.choose(2, 5, 9, true, 0, -1), NONE);
        Check.due("choose", x.choose(2, Integer.MIN_VALUE, Integer.MAX_VALUE, true, 0, 0), NONE);
    }
}
