import java.math.BigInteger;
import java.util.ArrayDeque;
import java.util.ArrayList;
import java.util.Comparator;
import java.util.HashMap;
import java.util.List;
import java.util.Map;

/** One ink answered by the document's words alone: by search, slowly, nothing shared with the class. */
final class Plain {
    final int a;
    final int b;
    final int c;
    final int d;
    final int kind;
    final int tone;
    final int offsetX;
    final int offsetY;
    final int signed;
    final int cell;
    int wide;
    int high;
    int slant;
    private List<int[]> homes;

    Plain(int a, int b, int c, int d, int kind, int tone, int offsetX, int offsetY) {
        this.a = a;
        this.b = b;
        this.c = c;
        this.d = d;
        this.kind = kind;
        this.tone = tone;
        this.offsetX = offsetX;
        this.offsetY = offsetY;
        signed = a * d - b * c;
        cell = Math.abs(signed);
        if (cell > 0) {
            findBrick();
        }
    }

    String clause() {
        return "s" + a + "," + b + "," + c + "," + d + "rdl".charAt(kind) + "t" + tone + "o" + offsetX + "," + offsetY;
    }

    boolean has(long x, long y) {
        return (x * d - y * c) % signed == 0 && (y * a - x * b) % signed == 0;
    }

    private void findBrick() {
        wide = 1;
        while (!has(wide, 0)) {
            wide++;
        }
        for (high = 1; ; high++) {
            for (slant = 0; slant < wide; slant++) {
                if (has(slant, high)) {
                    return;
                }
            }
        }
    }

    int[] home(int x, int y) {
        for (int[] home : places()) {
            if (has(x - offsetX - home[0], y - offsetY - home[1])) {
                return home;
            }
        }
        throw new AssertionError("a pixel without a home");
    }

    private List<int[]> places() {
        List<int[]> all = new ArrayList<>();
        for (int y = 0; y < high; y++) {
            for (int x = 0; x < wide; x++) {
                all.add(new int[] {x, y});
            }
        }
        return all;
    }

    int[] reduced() {
        int[] first = null;
        int[] second = null;
        for (int x = -18; x <= 18; x++) {
            for (int y = -18; y <= 18; y++) {
                if (has(x, y) && (x != 0 || y != 0) && isBefore(x, y, first)) {
                    first = new int[] {x, y};
                }
            }
        }
        for (int x = -18; x <= 18; x++) {
            for (int y = -18; y <= 18; y++) {
                if (has(x, y) && Math.abs(first[0] * y - first[1] * x) == cell && isBefore(x, y, second)) {
                    second = new int[] {x, y};
                }
            }
        }
        return new int[] {first[0], first[1], second[0], second[1]};
    }

    static boolean isBefore(int x, int y, int[] than) {
        if (than == null) {
            return true;
        }
        int by = x * x + y * y - than[0] * than[0] - than[1] * than[1];
        return by != 0 ? by < 0 : x != than[0] ? x > than[0] : y > than[1];
    }

    /** SPOT of a pixel from which the offset was taken. */
    int spot(int x, int y) {
        int px = 2 * x + 1;
        int py = 2 * y + 1;
        if (kind == 2) {
            int left = px * b - py * a;
            while (left < 0) {
                left += 2 * cell;
            }
            left %= 2 * cell;
            return Math.min(left, 2 * cell - left);
        }
        int best = Integer.MAX_VALUE;
        for (int gx = x - 26; gx <= x + 26; gx++) {
            for (int gy = y - 26; gy <= y + 26; gy++) {
                if (has(gx, gy)) {
                    int wx = Math.abs(px - 2 * gx);
                    int wy = Math.abs(py - 2 * gy);
                    best = Math.min(best, kind == 0 ? wx * wx + wy * wy : wx + wy);
                }
            }
        }
        return best;
    }

    /** HOMES by RANK. */
    List<int[]> ranked() {
        if (homes == null) {
            Map<int[], Integer> spots = new HashMap<>();
            List<int[]> all = places();
            for (int[] home : all) {
                spots.put(home, spot(home[0], home[1]));
            }
            all.sort(Comparator.<int[]>comparingInt(spots::get).thenComparingInt(h -> h[1]).thenComparingInt(h -> h[0]));
            homes = all;
        }
        return homes;
    }

    int rank(int x, int y) {
        int[] home = home(x, y);
        for (int i = 0; i < cell; i++) {
            int[] other = ranked().get(i);
            if (other[0] == home[0] && other[1] == home[1]) {
                return i;
            }
        }
        throw new AssertionError("a home without a rank");
    }

    int level() {
        return (cell * tone + 50) / 100;
    }

    boolean inked(int x, int y) {
        return rank(x, y) < level();
    }

    private int[][] rankMap() {
        int[][] map = new int[high][wide];
        for (int i = 0; i < cell; i++) {
            map[ranked().get(i)[1]][ranked().get(i)[0]] = i;
        }
        return map;
    }

    /** The number of a home on the plain plane (no offset). */
    private int at(int[][] map, int x, int y) {
        int rows = Math.floorDiv(y, high);
        return map[y - rows * high][Math.floorMod(x - rows * slant, wide)];
    }

    /** Lots at a level, and by which moves the plane's pixels hang together: 0 none, 1 along a line, 2 more. */
    int[] grown(int level, int bound) {
        int[][] map = rankMap();
        int[] lotOf = new int[cell];
        int lots = 0;
        int ways = 0;
        for (int start = 0; start < level; start++) {
            if (lotOf[start] != 0) {
                continue;
            }
            lots++;
            int[] from = ranked().get(start);
            boolean[][] seen = new boolean[2 * bound + 1][2 * bound + 1];
            ArrayDeque<int[]> queue = new ArrayDeque<>();
            queue.add(from);
            seen[bound + from[1]][bound + from[0]] = true;
            int[] move = null;
            while (!queue.isEmpty()) {
                int[] p = queue.remove();
                int rank = at(map, p[0], p[1]);
                lotOf[rank] = lots;
                if (rank == start && (p[0] != from[0] || p[1] != from[1])) {
                    int mx = p[0] - from[0];
                    int my = p[1] - from[1];
                    if (move == null) {
                        move = new int[] {mx, my};
                        ways = Math.max(ways, 1);
                    } else if (move[0] * my != move[1] * mx) {
                        ways = 2;
                    }
                }
                for (int[] side : new int[][] {{1, 0}, {-1, 0}, {0, 1}, {0, -1}}) {
                    int x = p[0] + side[0];
                    int y = p[1] + side[1];
                    if (Math.abs(x) <= bound && Math.abs(y) <= bound && !seen[bound + y][bound + x]
                            && at(map, x, y) < level) {
                        seen[bound + y][bound + x] = true;
                        queue.add(new int[] {x, y});
                    }
                }
            }
        }
        return new int[] {lots, ways};
    }

    static int gcd(int p, int q) {
        return BigInteger.valueOf(p).gcd(BigInteger.valueOf(q)).intValue();
    }

    static int[] quarter(int x, int y) {
        while (!(x > 0 && y >= 0)) {
            int was = x;
            x = -y;
            y = was;
        }
        return new int[] {x, y};
    }

    int[] slope() {
        int part = gcd(a, b);
        return quarter(a / part, b / part);
    }

    int[] turn(Plain o) {
        int[] t = quarter(a * o.a + b * o.b, a * o.b - b * o.a);
        if (t[1] > t[0]) {
            t = new int[] {t[1], t[0]};
        }
        int part = gcd(t[0], t[1]);
        return new int[] {t[0] / part, t[1] / part};
    }

    private int[][] waves() {
        return new int[][] {{d, -c}, {-b, a}, {-d, c}, {b, -a}};
    }

    /** P by X, by Y, both waves, ALIKE, and P P. */
    int[] beat(Plain o) {
        int[] best = null;
        int alike = 0;
        for (int i = 0; i < 4; i++) {
            for (int j = 0; j < 4; j++) {
                int x = o.signed * waves()[i][0] - signed * o.waves()[j][0];
                int y = o.signed * waves()[i][1] - signed * o.waves()[j][1];
                int length = x * x + y * y;
                if (length == 0) {
                    alike = 1;
                } else if (best == null || length < best[5]) {
                    best = new int[] {x, y, i, j, 0, length};
                }
            }
        }
        best[4] = alike;
        return best;
    }

    /** FAR, upper and lower in lowest terms. */
    BigInteger[] far(Plain o) {
        BigInteger upper = BigInteger.valueOf((long) signed * o.signed).pow(2);
        BigInteger lower = BigInteger.valueOf(beat(o)[5]);
        BigInteger part = upper.gcd(lower);
        return new BigInteger[] {upper.divide(part), lower.divide(part)};
    }

    static int compare(BigInteger[] far, BigInteger[] other) {
        return far[0].multiply(other[1]).compareTo(other[0].multiply(far[1]));
    }
}
