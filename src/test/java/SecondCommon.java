import java.util.ArrayList;
import java.util.List;

/** What a set of inks has in common, by the rows of points that each of its grids has. */
final class SecondCommon {
    final long wide;
    final long high;
    final long slant;
    final long supercell;

    private SecondCommon(List<SecondInk> inks) {
        long width = 1;
        long rise = 1;
        long side = 1;
        for (SecondInk ink : inks) {
            width = multiple(width, ink.brick()[0]);
            rise = multiple(rise, ink.brick()[1]);
            side = multiple(side, sideOf(ink));
        }
        wide = width;
        supercell = side;
        long row = rise;
        while (!isRowShared(inks, row)) {
            row += rise;
        }
        high = row;
        slant = firstInRow(inks, row);
    }

    static SecondCommon of(List<SecondInk> inks, int set) {
        List<SecondInk> chosen = new ArrayList<>();
        for (int i = 0; i < inks.size(); i++) {
            if ((set & 1 << i) != 0) {
                chosen.add(inks.get(i));
            }
        }
        return new SecondCommon(chosen);
    }

    private static long part(long p, long q) {
        return q == 0 ? p : part(q, p % q);
    }

    private static long multiple(long p, long q) {
        return p / part(p, q) * q;
    }

    private static long sideOf(SecondInk ink) {
        long side = 1;
        while (!ink.isOfGrid(side, 0) || !ink.isOfGrid(0, side)) {
            side++;
        }
        return side;
    }

    /** X of an ink's points in a row at a height that it has: this and all that are WIDE on. */
    private static long startOf(SecondInk ink, long row) {
        return row / ink.brick()[1] * ink.brick()[2];
    }

    /** Two rows of points share one, if their starts differ by what the common part of their steps divides. */
    private static boolean isRowShared(List<SecondInk> inks, long row) {
        for (SecondInk one : inks) {
            for (SecondInk other : inks) {
                long step = part(one.brick()[0], other.brick()[0]);
                if ((startOf(one, row) - startOf(other, row)) % step != 0) {
                    return false;
                }
            }
        }
        return true;
    }

    private static long firstInRow(List<SecondInk> inks, long row) {
        long px = 0;
        long step = 1;
        for (SecondInk ink : inks) {
            while ((px - startOf(ink, row)) % ink.brick()[0] != 0) {
                px += step;
            }
            step = multiple(step, ink.brick()[0]);
        }
        return px % step;
    }

    long[] reduced() {
        long[] first = shortest();
        long[] other = other(first);
        long[] second = null;
        long about = Math.floorDiv(-(other[0] * first[0] + other[1] * first[1]), square(first));
        for (long t = about - 2; t <= about + 3; t++) {
            for (int sign = -1; sign <= 1; sign += 2) {
                long[] move = {sign * (other[0] + t * first[0]), sign * (other[1] + t * first[1])};
                second = second == null || isAhead(move, second) ? move : second;
            }
        }
        return new long[] {first[0], first[1], second[0], second[1]};
    }

    private static long square(long[] move) {
        return move[0] * move[0] + move[1] * move[1];
    }

    private static boolean isAhead(long[] move, long[] than) {
        if (square(move) != square(than)) {
            return square(move) < square(than);
        }
        return move[0] > than[0] || move[0] == than[0] && move[1] > than[1];
    }

    /** Looks through row after row, up and down alike, until rows are farther than the best. */
    private long[] shortest() {
        long[] best = {wide, 0};
        for (long row = 1; row * high * row * high <= square(best); row++) {
            long near = Math.floorMod(row * slant, wide);
            for (long px : new long[] {near, near - wide}) {
                for (int sign = -1; sign <= 1; sign += 2) {
                    long[] move = {sign * px, sign * row * high};
                    best = isAhead(move, best) ? move : best;
                }
            }
        }
        return best;
    }

    /** Any move that makes the grid together with the first. */
    private long[] other(long[] first) {
        long rows = first[1] / high;
        long columns = (first[0] - rows * slant) / wide;
        // columns q - rows p must be 1 or -1
        long p = 0;
        long q = 1;
        if (rows != 0) {
            while ((1 + Math.abs(rows) * p) % Math.max(1, Math.abs(columns)) != 0) {
                p++;
            }
            q = columns == 0 ? 0 : (1 + Math.abs(rows) * p) / Math.abs(columns);
            p = columns == 0 ? 1 : columns < 0 == rows < 0 ? p : -p;
        }
        long[] move = {p * wide + q * slant, q * high};
        if (Math.abs(first[0] * move[1] - first[1] * move[0]) != wide * high) {
            throw new AssertionError("not a move that makes the grid");
        }
        return move;
    }
}
