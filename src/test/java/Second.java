import java.math.BigInteger;
import java.util.ArrayList;
import java.util.Comparator;
import java.util.List;
import java.util.NoSuchElementException;

/**
 * The whole document read a second time: the same face as the class, answered by search or by definition wherever that
 * ends in time, without the class or Plain. It was written with the class in view, so it shows slips in how answers are
 * found; where the document leaves room, it reads it as the class does.
 */
final class Second {
    private static final int NONE = -1;
    private static final int HIDDEN = -1000000;

    private final StringBuilder tape = new StringBuilder();
    private final List<SecondInk> inks = new ArrayList<>();
    private final int[] status = new int[3];

    // ---- the tape and its text

    int feed(int a, int b, int c, int d, int e) {
        StringBuilder more = new StringBuilder();
        for (int word : new int[] {a, b, c, d, e}) {
            for (int shift : new int[] {24, 16, 8, 0}) {
                char sign = (char) (word >>> shift & 255);
                if (sign != 0) {
                    more.append(sign);
                }
            }
        }
        if (tape.length() + more.length() > 160) {
            return NONE;
        }
        return tape.append(more).length();
    }

    boolean end(int n) {
        if (n < 0 || n > tape.length()) {
            return false;
        }
        tape.setLength(n);
        return true;
    }

    int fault() {
        return new SecondText(tape.toString()).fault;
    }

    int text() {
        SecondText text = new SecondText(tape.toString());
        if (text.fault != NONE) {
            return NONE;
        }
        tape.setLength(0);
        inks.clear();
        for (SecondInk ink : text.inks) {
            if (ink.cell() >= 1 && ink.cell() <= 144) {
                inks.add(ink);
            }
        }
        return inks.size();
    }

    // ---- one ink

    private boolean has(int ink) {
        return ink >= 0 && ink < inks.size();
    }

    private static boolean isPixel(int x, int y) {
        return -9999 <= x && x <= 9999 && -9999 <= y && y <= 9999;
    }

    /** Part of a row; what is not there is answered so. */
    private static int part(int[] row, int what, int otherwise) {
        return what >= 0 && what < row.length ? row[what] : otherwise;
    }

    int ink(int ink, int what) {
        if (!has(ink) || what < 0 || what > 9) {
            throw new NoSuchElementException();
        }
        SecondInk i = inks.get(ink);
        return new int[] {i.a, i.b, i.c, i.d, i.cell(), i.spot, i.tone, i.level(), i.x, i.y}[what];
    }

    int brick(int ink, int what) {
        return has(ink) ? part(inks.get(ink).brick(), what, HIDDEN) : HIDDEN;
    }

    int home(int ink, int x, int y, int axis) {
        return has(ink) && isPixel(x, y) ? part(inks.get(ink).home(x, y), axis, HIDDEN) : HIDDEN;
    }

    int reduced(int ink, int what) {
        if (!has(ink) || what < 0 || what > 3) {
            return HIDDEN;
        }
        return (int) SecondCommon.of(inks, 1 << ink).reduced()[what];
    }

    int spot(int ink, int x, int y) {
        return has(ink) && isPixel(x, y) ? inks.get(ink).spotAt(x - inks.get(ink).x, y - inks.get(ink).y) : NONE;
    }

    int rank(int ink, int x, int y) {
        return has(ink) && isPixel(x, y) ? inks.get(ink).rank(x, y) : NONE;
    }

    int ranked(int ink, int rank, int axis) {
        if (!has(ink) || rank < 0 || rank >= inks.get(ink).cell()) {
            return HIDDEN;
        }
        return part(inks.get(ink).homesByRank().get(rank), axis, HIDDEN);
    }

    boolean inked(int ink, int x, int y) {
        return has(ink) && isPixel(x, y) && inks.get(ink).isInked(x, y);
    }

    int dots(int ink, int level) {
        return has(ink) && level >= 0 && level <= inks.get(ink).cell() ? inks.get(ink).lots(level) : NONE;
    }

    int grown(int ink, int what) {
        return has(ink) && (what == 0 || what == 1) ? inks.get(ink).leastLevelWithMoves(what + 1) : NONE;
    }

    private static int[] quarterTurned(int x, int y) {
        int[] pair = {x, y};
        while (pair[0] <= 0 || pair[1] < 0) {
            pair = new int[] {-pair[1], pair[0]};
        }
        return pair;
    }

    private static int[] withoutCommonPart(int[] pair) {
        for (int by = Math.max(pair[0], pair[1]); by > 1; by--) {
            if (pair[0] % by == 0 && pair[1] % by == 0) {
                return new int[] {pair[0] / by, pair[1] / by};
            }
        }
        return pair;
    }

    int slope(int ink, int axis) {
        if (!has(ink)) {
            return HIDDEN;
        }
        return part(withoutCommonPart(quarterTurned(inks.get(ink).a, inks.get(ink).b)), axis, HIDDEN);
    }

    // ---- two inks

    int turn(int ink, int other, int axis) {
        if (!has(ink) || !has(other)) {
            return HIDDEN;
        }
        SecondInk i = inks.get(ink);
        SecondInk o = inks.get(other);
        int[] pair = quarterTurned(i.a * o.a + i.b * o.b, i.a * o.b - i.b * o.a);
        if (pair[1] > pair[0]) {
            pair = new int[] {pair[1], pair[0]};
        }
        return part(withoutCommonPart(pair), axis, HIDDEN);
    }

    int beat(int ink, int other, int what) {
        if (!has(ink) || !has(other) || ink == other || what < 0 || what > 4) {
            return HIDDEN;
        }
        SecondBeat beat = new SecondBeat(inks.get(ink), inks.get(other));
        return new int[] {beat.x, beat.y, beat.wave, beat.otherWave, beat.isAlike ? 1 : 0}[what];
    }

    long far(int ink, int other, int what) {
        if (!has(ink) || !has(other) || ink == other || what < 0 || what > 2) {
            return HIDDEN;
        }
        SecondBeat beat = new SecondBeat(inks.get(ink), inks.get(other));
        BigInteger part = beat.upper.gcd(beat.lower);
        return (what == 0 ? beat.upper.divide(part) : what == 1 ? beat.lower.divide(part)
                : beat.upper.divide(beat.lower).sqrt()).longValueExact();
    }

    // ---- sets of inks

    private boolean isSet(int set) {
        return set >= 0 && set < 1 << inks.size();
    }

    long common(int set, int what) {
        if (set == 0 || !isSet(set) || what < 0 || what > 8) {
            return HIDDEN;
        }
        SecondCommon common = SecondCommon.of(inks, set);
        switch (what) {
            case 0: return common.wide * common.high;
            case 1: return common.wide;
            case 2: return common.high;
            case 3: return common.slant;
            case 8: return common.supercell;
            default: return common.reduced()[what - 4];
        }
    }

    long inCell(int set, int ink) {
        if (!isSet(set) || !has(ink) || (set & 1 << ink) == 0) {
            return HIDDEN;
        }
        long side = SecondCommon.of(inks, set).supercell;
        return side * side / inks.get(ink).cell();
    }

    // ---- pixels

    int overlay(int x, int y) {
        return isPixel(x, y) ? setAt(x, y) : NONE;
    }

    private int setAt(int x, int y) {
        int set = 0;
        for (int i = 0; i < inks.size(); i++) {
            set += inks.get(i).isInked(x, y) ? 1 << i : 0;
        }
        return set;
    }

    private static boolean isCorner(int x, int y) {
        return -999 <= x && x <= 999 && -999 <= y && y <= 999;
    }

    private static boolean isWindow(int x, int y, int w, int h) {
        return isCorner(x, y) && 1 <= w && w <= 32 && 1 <= h && h <= 32;
    }

    int window(int x, int y, int w, int h, int what, int k) {
        boolean isAsked = what == 0 && k >= 0 && k <= inks.size() || what == 1 && isSet(k);
        if (!isWindow(x, y, w, h) || !isAsked) {
            return NONE;
        }
        int pixels = 0;
        for (int i = x; i < x + w; i++) {
            for (int j = y; j < y + h; j++) {
                int set = setAt(i, j);
                pixels += (what == 1 ? set == k : Integer.bitCount(set) == k) ? 1 : 0;
            }
        }
        return pixels;
    }

    int densest(int x, int y, int w, int h) {
        for (int k = inks.size(); k > 0; k--) {
            if (window(x, y, w, h, 0, k) > 0) {
                return k;
            }
        }
        return isWindow(x, y, w, h) ? 0 : NONE;
    }

    int next(int x, int y, int set) {
        if (!isCorner(x, y) || set < 0 || set > 15) {
            return NONE;
        }
        for (int i = 0; i <= 999; i++) {
            if (setAt(x + i, y) == set) {
                return i;
            }
        }
        return NONE;
    }

    // ---- screens chosen

    private static List<SecondInk> squares(int low, int high) {
        List<SecondInk> all = new ArrayList<>();
        for (int a = 1; a <= 12; a++) {
            for (int b = 0; b <= 12; b++) {
                SecondInk square = new SecondInk(a, b, -b, a);
                if (square.cell() >= low && square.cell() <= high) {
                    all.add(square);
                }
            }
        }
        all.sort(Comparator.comparingInt(SecondInk::cell).thenComparingInt(square -> square.a));
        return all;
    }

    int choose(int n, int low, int high, boolean isFar, int i, int what) {
        boolean isSpan = 1 <= low && low <= 144 && 1 <= high && high <= 144 && high - low <= 20;
        if (n != 2 && n != 3 || !isSpan || i < 0 || i >= n || what < 0 || what > 1) {
            return NONE;
        }
        List<SecondInk> squares = squares(low, high);
        List<SecondInk> best = null;
        SecondBeat bestWorst = null;
        for (List<SecondInk> row : rows(squares, n)) {
            SecondBeat worst = null;
            for (SecondInk one : row) {
                for (SecondInk other : row.subList(row.indexOf(one) + 1, n)) {
                    SecondBeat beat = new SecondBeat(one, other);
                    boolean isWorse = worst == null || (isFar ? worst.isFarther(beat) : beat.isFarther(worst));
                    worst = isWorse ? beat : worst;
                }
            }
            if (best == null || (isFar ? worst.isFarther(bestWorst) : bestWorst.isFarther(worst))) {
                best = row;
                bestWorst = worst;
            }
        }
        return best == null ? NONE : what == 0 ? best.get(i).a : best.get(i).b;
    }

    /** All rows of n, the first ones first. */
    private static List<List<SecondInk>> rows(List<SecondInk> all, int n) {
        List<List<SecondInk>> rows = new ArrayList<>();
        if (n == 0) {
            rows.add(List.of());
            return rows;
        }
        for (int i = 0; i < all.size(); i++) {
            for (List<SecondInk> rest : rows(all.subList(i + 1, all.size()), n - 1)) {
                List<SecondInk> row = new ArrayList<>(List.of(all.get(i)));
                row.addAll(rest);
                rows.add(row);
            }
        }
        return rows;
    }

    int bestTurn(int ink, int what) {
        if (!has(ink) || what < 0 || what > 1 || inks.size() == 1) {
            return NONE;
        }
        SecondInk best = null;
        SecondBeat bestLeast = null;
        for (SecondInk square : squares(inks.get(ink).cell(), inks.get(ink).cell())) {
            SecondBeat least = null;
            for (int i = 0; i < inks.size(); i++) {
                SecondBeat beat = new SecondBeat(square, inks.get(i));
                if (i != ink && !beat.isAlike && (least == null || least.isFarther(beat))) {
                    least = beat;
                }
            }
            // none is left, if it is ALIKE to all: nothing is farther
            boolean isFarther = bestLeast != null && (least == null || least.isFarther(bestLeast));
            if (best == null || isFarther) {
                best = square;
                bestLeast = least;
            }
        }
        return best == null ? NONE : what == 0 ? best.a : best.b;
    }

    // ---- by hand

    private int refused(int why) {
        status[why]++;
        return NONE;
    }

    private static boolean isWithin(int most, int... numbers) {
        for (int n : numbers) {
            if (n < -most || n > most) {
                return false;
            }
        }
        return true;
    }

    int screen(int ink, int a, int b, int c, int d) {
        if (!has(ink)) {
            return refused(0);
        }
        SecondInk now = inks.get(ink);
        SecondInk then = new SecondInk(a, b, c, d);
        if (!isWithin(12, a, b, c, d) || then.cell() < 1 || then.cell() > 144) {
            return refused(1);
        }
        if (now.a == a && now.b == b && now.c == c && now.d == d) {
            return refused(2);
        }
        then.spot = now.spot;
        then.tone = now.tone;
        then.x = now.x;
        then.y = now.y;
        inks.set(ink, then);
        return now.cell();
    }

    int shape(int ink, int spot) {
        if (!has(ink)) {
            return refused(0);
        }
        int was = inks.get(ink).spot;
        if (spot < 0 || spot > 2 || spot == was) {
            return refused(spot == was ? 2 : 1);
        }
        inks.get(ink).spot = spot;
        return was;
    }

    int tone(int ink, int tone) {
        if (!has(ink)) {
            return refused(0);
        }
        int was = inks.get(ink).tone;
        if (tone < 0 || tone > 100 || tone == was) {
            return refused(tone == was ? 2 : 1);
        }
        inks.get(ink).tone = tone;
        return was;
    }

    int offset(int ink, int x, int y) {
        if (!has(ink)) {
            return refused(0);
        }
        if (!isWithin(99, x, y)) {
            return refused(1);
        }
        SecondInk now = inks.get(ink);
        if (now.x == x && now.y == y) {
            return refused(2);
        }
        int moved = Math.max(x, now.x) - Math.min(x, now.x) + Math.max(y, now.y) - Math.min(y, now.y);
        now.x = x;
        now.y = y;
        return moved;
    }

    boolean swap(int ink, int other) {
        if (!has(ink) || !has(other)) {
            refused(0);
            return false;
        }
        if (ink == other) {
            refused(2);
            return false;
        }
        inks.set(ink, inks.set(other, inks.get(ink)));
        return true;
    }

    int drop(int ink) {
        if (!has(ink)) {
            return refused(0);
        }
        inks.remove(ink);
        return inks.size();
    }

    int status(int what) {
        return part(status, what, NONE);
    }

    // ---- of all inks

    int most(int what) {
        int least = NONE;
        int greatest = NONE;
        int alike = 0;
        SecondBeat leastBeat = null;
        SecondBeat greatestBeat = null;
        for (int i = 0; i < inks.size(); i++) {
            for (int j = i + 1; j < inks.size(); j++) {
                SecondBeat beat = new SecondBeat(inks.get(i), inks.get(j));
                alike += beat.isAlike ? 1 : 0;
                if (leastBeat == null || leastBeat.isFarther(beat)) {
                    leastBeat = beat;
                    least = 10 * i + j;
                }
                if (greatestBeat == null || beat.isFarther(greatestBeat)) {
                    greatestBeat = beat;
                    greatest = 10 * i + j;
                }
            }
        }
        return what < 3 ? part(new int[] {least, greatest, alike}, what, NONE) : mostOfEach(what);
    }

    private int mostOfEach(int what) {
        int cell = 0;
        int pixels = 0;
        int touching = 0;
        int solid = 0;
        for (int i = 0; i < inks.size(); i++) {
            SecondInk ink = inks.get(i);
            cell = Math.max(cell, ink.cell());
            for (int[] home : ink.homesByRank()) {
                pixels += ink.isInked(home[0] + ink.x, home[1] + ink.y) ? 1 : 0;
            }
            int ways = ink.waysAt(ink.level());
            touching |= ways >= 1 ? 1 << i : 0;
            solid |= ways >= 2 ? 1 << i : 0;
        }
        return part(new int[] {cell, pixels, touching, solid}, what - 3, NONE);
    }

    int count(int what) {
        return part(new int[] {inks.size(), tape.length()}, what, HIDDEN);
    }
}
