import java.math.BigInteger;
import java.util.ArrayList;
import java.util.List;
import java.util.Random;

/** Promises 20 and 21: what inks have in common. */
public final class CommonTest {
    private static final int HIDDEN = DotScreens.HIDDEN;

    public static void main(String[] args) {
        Random random = new Random(5);
        for (int i = 0; i < 150; i++) {
            List<Plain> plains = inks(random, 1 + i % 4, i % 4 == 3 ? 9 : i % 4 == 2 ? 16 : 60);
            DotScreens x = CouplesTest.told(plains);
            for (int set = 1; set < 1 << plains.size(); set++) {
                searched(x, plains, set);
            }
        }
        for (int i = 0; i < 500; i++) {
            List<Plain> plains = inks(random, 4, 144);
            DotScreens x = CouplesTest.told(plains);
            for (int set = 1; set < 16; set++) {
                proved(x, plains, set);
            }
        }
        greatest();
        noSuchOnes();
        Check.end();
    }

    private static List<Plain> inks(Random random, int n, int cellMost) {
        List<Plain> plains = new ArrayList<>();
        for (int i = 0; i < n; i++) {
            plains.add(InkTest.randomInk(random, cellMost));
        }
        return plains;
    }

    private static boolean has(List<Plain> plains, int set, long x, long y) {
        for (int i = 0; i < plains.size(); i++) {
            if ((set >> i & 1) == 1 && !plains.get(i).has(x, y)) {
                return false;
            }
        }
        return true;
    }

    /** By looking at points one by one. */
    private static void searched(DotScreens x, List<Plain> plains, int set) {
        int wide = 1;
        while (!has(plains, set, wide, 0)) {
            wide++;
        }
        int high = 1;
        int slant = 0;
        while (!has(plains, set, slant, high)) {
            slant++;
            if (slant == wide) {
                slant = 0;
                high++;
            }
        }
        int side = 1;
        while (!has(plains, set, side, 0) || !has(plains, set, 0, side)) {
            side++;
        }
        String who = " of " + set;
        Check.due("WIDE" + who, x.common(set, 1), wide);
        Check.due("HIGH" + who, x.common(set, 2), high);
        Check.due("SLANT" + who, x.common(set, 3), slant);
        Check.due("CELL" + who, x.common(set, 0), wide * high);
        Check.due("SUPERCELL" + who, x.common(set, 8), side);
        for (int i = 0; i < plains.size(); i++) {
            boolean isOfThese = (set >> i & 1) == 1;
            Check.due("inCell" + who, x.inCell(set, i), isOfThese ? (long) side * side / plains.get(i).cell : HIDDEN);
        }
        reduced(x, plains, set, wide * high);
    }

    private static void reduced(DotScreens x, List<Plain> plains, int set, int cell) {
        // the second move is a shortest one off the first one's line, so no longer than those found
        int bound = (int) Math.max(Math.abs(x.common(set, 6)), Math.abs(x.common(set, 7)));
        bound = Math.max(bound, (int) Math.sqrt(1.2 * cell) + 1) * 3 / 2 + 1;
        if (bound > 1200) {
            return;
        }
        int[] first = null;
        int[] second = null;
        for (int px = -bound; px <= bound; px++) {
            for (int py = -bound; py <= bound; py++) {
                if ((px != 0 || py != 0) && has(plains, set, px, py) && Plain.isBefore(px, py, first)) {
                    first = new int[] {px, py};
                }
            }
        }
        for (int px = -bound; px <= bound; px++) {
            for (int py = -bound; py <= bound; py++) {
                if (Math.abs(first[0] * py - first[1] * px) == cell && has(plains, set, px, py)
                        && Plain.isBefore(px, py, second)) {
                    second = new int[] {px, py};
                }
            }
        }
        int[] want = {first[0], first[1], second[0], second[1]};
        for (int i = 0; i < 4; i++) {
            Check.due("REDUCED " + i + " of " + set, x.common(set, 4 + i), want[i]);
        }
    }

    /** A grid too great to search: it is the right one if its points are of all grids and its cell is due. */
    private static void proved(DotScreens x, List<Plain> plains, int set) {
        long wide = x.common(set, 1);
        long high = x.common(set, 2);
        long slant = x.common(set, 3);
        long cell = cellOf(plains, set);
        Check.due("CELL of " + set, x.common(set, 0), cell);
        Check.due("WIDE times HIGH of " + set, wide * high, cell);
        Check.due("WIDE is of all", has(plains, set, wide, 0), true);
        Check.due("SLANT, HIGH is of all", has(plains, set, slant, high), true);
        Check.due("SLANT's bounds", slant >= 0 && slant < wide, true);
        long side = x.common(set, 8);
        Check.due("SUPERCELL along X", has(plains, set, side, 0), true);
        Check.due("SUPERCELL along Y", has(plains, set, 0, side), true);
        for (long part = 2; part <= 144; part++) {
            if (side % part == 0) {
                boolean isLess = has(plains, set, side / part, 0) && has(plains, set, 0, side / part);
                Check.due("no lesser SUPERCELL", isLess, false);
            }
        }
        long ax = x.common(set, 4);
        long ay = x.common(set, 5);
        long bx = x.common(set, 6);
        long by = x.common(set, 7);
        Check.due("REDUCED are of all", has(plains, set, ax, ay) && has(plains, set, bx, by), true);
        Check.due("REDUCED make it", Math.abs(ax * by - ay * bx), cell);
        Check.due("the first is not longer", ax * ax + ay * ay <= bx * bx + by * by, true);
        Check.due("they are reduced", 2 * Math.abs(ax * bx + ay * by) <= ax * ax + ay * ay, true);
        Check.due("of both signs the first with greater X", ax > 0 || ax == 0 && ay > 0, true);
        Check.due("of both signs the second with greater X", bx > 0 || bx == 0 && by > 0, true);
        for (int i = 0; i < plains.size(); i++) {
            if ((set >> i & 1) == 1) {
                Check.due("inCell", x.inCell(set, i), side * side / plains.get(i).cell);
            }
        }
    }

    /** The cell of what two grids share is both cells' product by the cell of the grid they make together. */
    private static long cellOf(List<Plain> plains, int set) {
        long[] basis = {1, 0, 0, 1};
        BigInteger cell = BigInteger.ONE;
        for (int i = 0; i < plains.size(); i++) {
            if ((set >> i & 1) == 1) {
                Plain p = plains.get(i);
                long[] all = {basis[0], basis[1], basis[2], basis[3], p.a, p.b, p.c, p.d};
                BigInteger joint = BigInteger.ZERO;
                for (int j = 0; j < 8; j += 2) {
                    for (int k = j + 2; k < 8; k += 2) {
                        BigInteger one = BigInteger.valueOf(all[j]).multiply(BigInteger.valueOf(all[k + 1]));
                        BigInteger two = BigInteger.valueOf(all[j + 1]).multiply(BigInteger.valueOf(all[k]));
                        joint = joint.gcd(one.subtract(two));
                    }
                }
                cell = cell.multiply(BigInteger.valueOf(p.cell)).divide(joint);
                basis = shared(basis, p);
            }
        }
        return cell.longValueExact();
    }

    /** A basis of what a grid shares with one more: Y steps of the first until the other takes them, too. */
    private static long[] shared(long[] basis, Plain p) {
        long wide = 0;
        for (int i = 1; wide == 0; i++) {
            if (p.has(i * basis[0], i * basis[1])) {
                wide = i;
            }
        }
        for (int j = 1; ; j++) {
            for (int i = 0; i < wide; i++) {
                if (p.has(i * basis[0] + j * basis[2], i * basis[1] + j * basis[3])) {
                    return new long[] {wide * basis[0], wide * basis[1],
                        i * basis[0] + j * basis[2], i * basis[1] + j * basis[3]};
                }
            }
        }
    }

    private static void greatest() {
        DotScreens x = Check.told("s12,0;s12,1,1,12;s12,5,1,12;s11,4");
        Check.due("CELL, no part in common", x.common(15, 0), 144L * 143 * 139 * 137);
        Check.due("SUPERCELL", x.common(15, 8), 12L * 143 * 139 * 137);
        Check.due("inCell", x.inCell(15, 0), 143L * 139 * 137 * 143 * 139 * 137);
    }

    private static void noSuchOnes() {
        DotScreens x = Check.told("s2,1;s3,0");
        for (int set : new int[] {0, 4, 5, 8, 16, -1, Integer.MIN_VALUE, Integer.MAX_VALUE}) {
            Check.due("common of " + set, x.common(set, 0), HIDDEN);
            Check.due("inCell of " + set, x.inCell(set, 0), HIDDEN);
        }
        for (int what : new int[] {-1, 9, Integer.MAX_VALUE, Integer.MIN_VALUE}) {
            Check.due("common " + what, x.common(3, what), HIDDEN);
        }
        Check.due("inCell of another", x.inCell(2, 0), HIDDEN);
        Check.due("inCell of none", x.inCell(3, 2), HIDDEN);
        Check.due("inCell of none", x.inCell(3, -1), HIDDEN);
        Check.due("inCell of none", x.inCell(3, 32), HIDDEN);
        Check.due("no inks", new DotScreens().common(1, 0), HIDDEN);
        Check.due("offsets aside", Check.told("s2,1o7,9;s3,0o1,1").common(3, 0), 45);
    }
}
