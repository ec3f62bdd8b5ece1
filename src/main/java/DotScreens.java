import java.util.NoSuchElementException;

/**
 * Dot grids of up to four inks: lattices of whole points, the thresholds of their cells, how dots
 * grow, how two screens turn and beat, and what screens have in common.
 *
 * <p>All rows are made by the constructor and used again: no call makes an object.
 */
public final class DotScreens {
    public static final int NONE = -1;
    public static final int HIDDEN = -1000000;

    private static final int INKS_MOST = 4;
    private static final int CELL_MOST = 144;
    private static final int PAIR_MOST = 12;
    private static final int OFFSET_MOST = 99;
    private static final int TONE_MOST = 100;
    private static final int TAPE_MOST = 160;
    private static final int PIXEL_MOST = 9999;
    private static final int CORNER_MOST = 999;
    private static final int SIDE_MOST = 32;
    private static final int AHEAD_MOST = 999;
    private static final int SPAN_MOST = 20;

    private static final int ROUND = 0;
    private static final int DIAMOND = 1;
    private static final int LINE = 2;

    private static final int NOT_THERE = 0;
    private static final int OUT_OF_BOUNDS = 1;
    private static final int IS_SO = 2;

    /** Euclid's steps on numbers below 144 to the fourth stay far below this. */
    private static final int STEPS_MOST = 200;

    private final Tape tape = new Tape();
    private final Reader reader = new Reader(tape);
    private final Ink[] inks = new Ink[INKS_MOST];
    private int held;
    private final int[] refused = new int[3];
    private final Growth growth = new Growth();
    private final Grid meeting = new Grid();
    private final Reduction reduction = new Reduction();
    private final Beat beating = new Beat();
    private final Chooser chooser = new Chooser();
    private final Screen square = new Screen();
    private long leastUpper;
    private long leastLower;

    public DotScreens() {
        for (int i = 0; i < inks.length; i++) {
            inks[i] = new Ink();
        }
    }

    // ---- the tape and its text

    public int feed(int a, int b, int c, int d, int e) {
        int more = bytesIn(a) + bytesIn(b) + bytesIn(c) + bytesIn(d) + bytesIn(e);
        if (tape.length + more > TAPE_MOST) {
            return NONE;
        }
        tape.put(a);
        tape.put(b);
        tape.put(c);
        tape.put(d);
        tape.put(e);
        return tape.length;
    }

    public boolean end(int n) {
        if (n < 0 || n > tape.length) {
            return false;
        }
        tape.length = n;
        return true;
    }

    public int fault() {
        reader.read();
        return reader.wrong;
    }

    public int text() {
        reader.read();
        if (reader.wrong != NONE) {
            return NONE;
        }
        held = 0;
        for (int i = 0; i < reader.clauses; i++) {
            takeClause(i);
        }
        tape.length = 0;
        return held;
    }

    private void takeClause(int clause) {
        int a = reader.told(clause, Reader.A);
        int b = reader.told(clause, Reader.B);
        int c = reader.told(clause, Reader.C);
        int d = reader.told(clause, Reader.D);
        if (!isCell(a * d - b * c) || held >= inks.length) {
            return;
        }
        Ink fresh = inks[held];
        held++;
        fresh.takeScreen(a, b, c, d);
        fresh.takeSpot(reader.told(clause, Reader.SPOT));
        fresh.tone = reader.told(clause, Reader.TONE);
        fresh.offsetX = reader.told(clause, Reader.OFFSET_X);
        fresh.offsetY = reader.told(clause, Reader.OFFSET_Y);
    }

    // ---- one ink

    public int ink(int ink, int what) throws NoSuchElementException {
        if (!isInk(ink) || what < 0 || what > 9) {
            throw new NoSuchElementException("no such ink, or nothing of that kind is told of it");
        }
        Ink one = inks[ink];
        switch (what) {
            case 0: return one.screen.a;
            case 1: return one.screen.b;
            case 2: return one.screen.c;
            case 3: return one.screen.d;
            case 4: return one.cell;
            case 5: return one.kind;
            case 6: return one.tone;
            case 7: return one.level();
            case 8: return one.offsetX;
            default: return one.offsetY;
        }
    }

    public int brick(int ink, int what) {
        if (!isInk(ink)) {
            return HIDDEN;
        }
        Grid grid = inks[ink].grid;
        switch (what) {
            case 0: return (int) grid.wide;
            case 1: return (int) grid.high;
            case 2: return (int) grid.slant;
            default: return HIDDEN;
        }
    }

    public int home(int ink, int x, int y, int axis) {
        if (!isInk(ink) || !isPixel(x, y) || !isAxis(axis)) {
            return HIDDEN;
        }
        Ink one = inks[ink];
        return one.axisOf(one.placeOf(x, y), axis);
    }

    public int reduced(int ink, int what) {
        if (!isInk(ink) || what < 0 || what > 3) {
            return HIDDEN;
        }
        reduction.reduce(inks[ink].grid);
        return (int) reduction.part(what);
    }

    public int spot(int ink, int x, int y) {
        if (!isInk(ink) || !isPixel(x, y)) {
            return NONE;
        }
        Ink one = inks[ink];
        one.sort();
        return at(one.spots, one.placeOf(x, y));
    }

    public int rank(int ink, int x, int y) {
        if (!isInk(ink) || !isPixel(x, y)) {
            return NONE;
        }
        Ink one = inks[ink];
        one.sort();
        return at(one.ranks, one.placeOf(x, y));
    }

    public int ranked(int ink, int rank, int axis) {
        if (!isInk(ink) || !isAxis(axis) || rank < 0 || rank >= inks[ink].cell) {
            return HIDDEN;
        }
        Ink one = inks[ink];
        one.sort();
        return one.axisOf(at(one.order, rank), axis);
    }

    public boolean inked(int ink, int x, int y) {
        if (!isInk(ink) || !isPixel(x, y)) {
            return false;
        }
        inks[ink].startRow(x, y);
        return inks[ink].passPixel();
    }

    public int dots(int ink, int level) {
        if (!isInk(ink) || level < 0 || level > inks[ink].cell) {
            return NONE;
        }
        growth.grow(inks[ink]);
        return at(inks[ink].lots, level);
    }

    public int grown(int ink, int what) {
        if (!isInk(ink) || !isAxis(what)) {
            return NONE;
        }
        growth.grow(inks[ink]);
        return what == 0 ? inks[ink].touch : inks[ink].solid;
    }

    // ---- two inks

    public int slope(int ink, int axis) {
        if (!isInk(ink) || !isAxis(axis)) {
            return HIDDEN;
        }
        Screen one = inks[ink].screen;
        int x = turnedX(one.a, one.b);
        int y = turnedY(one.a, one.b);
        return lowest(axis == 0 ? x : y, x, y);
    }

    public int turn(int ink, int other, int axis) {
        if (!isInk(ink) || !isInk(other) || !isAxis(axis)) {
            return HIDDEN;
        }
        Screen one = inks[ink].screen;
        Screen two = inks[other].screen;
        int along = one.a * two.a + one.b * two.b;
        int across = one.a * two.b - one.b * two.a;
        int x = turnedX(along, across);
        int y = turnedY(along, across);
        int part = axis == 0 ? Math.max(x, y) : Math.min(x, y);
        return lowest(part, x, y);
    }

    public int beat(int ink, int other, int what) {
        if (!isInk(ink) || !isInk(other) || ink == other) {
            return HIDDEN;
        }
        beating.compare(inks[ink].screen, inks[other].screen);
        switch (what) {
            case 0: return beating.x;
            case 1: return beating.y;
            case 2: return beating.wave;
            case 3: return beating.otherWave;
            case 4: return beating.isAlike ? 1 : 0;
            default: return HIDDEN;
        }
    }

    public long far(int ink, int other, int what) {
        if (!isInk(ink) || !isInk(other) || ink == other) {
            return HIDDEN;
        }
        beating.compare(inks[ink].screen, inks[other].screen);
        switch (what) {
            case 0: return beating.upper;
            case 1: return beating.lower;
            case 2: return rootOf(div(beating.upper, beating.lower));
            default: return HIDDEN;
        }
    }

    // ---- what inks have in common

    public long common(int inks, int what) {
        if (!isSet(inks) || inks == 0 || what < 0 || what > 8) {
            return HIDDEN;
        }
        meet(inks);
        switch (what) {
            case 0: return meeting.wide * meeting.high;
            case 1: return meeting.wide;
            case 2: return meeting.high;
            case 3: return meeting.slant;
            case 8: return meeting.supercell();
            default:
                reduction.reduce(meeting);
                return reduction.part(what - 4);
        }
    }

    public long inCell(int inks, int ink) {
        if (!isSet(inks) || !isInk(ink) || (inks >> ink & 1) == 0) {
            return HIDDEN;
        }
        meet(inks);
        long side = meeting.supercell();
        return div(side * side, this.inks[ink].cell);
    }

    private void meet(int set) {
        meeting.takeAll();
        for (int i = 0; i < held; i++) {
            if ((set >> i & 1) == 1) {
                meeting.meet(inks[i].grid);
            }
        }
    }

    // ---- pixels that inks share

    public int overlay(int x, int y) {
        if (!isPixel(x, y)) {
            return NONE;
        }
        startRow(x, y);
        return passPixel();
    }

    public int window(int x, int y, int w, int h, int what, int k) {
        if (!isWindow(x, y, w, h) || !isAxis(what)) {
            return NONE;
        }
        if (what == 0 ? k < 0 || k > held : !isSet(k)) {
            return NONE;
        }
        int found = 0;
        for (int j = 0; j < h; j++) {
            startRow(x, y + j);
            for (int i = 0; i < w; i++) {
                int set = passPixel();
                if (k == (what == 0 ? Integer.bitCount(set) : set)) {
                    found++;
                }
            }
        }
        return found;
    }

    public int densest(int x, int y, int w, int h) {
        if (!isWindow(x, y, w, h)) {
            return NONE;
        }
        int densest = 0;
        for (int j = 0; j < h; j++) {
            startRow(x, y + j);
            for (int i = 0; i < w; i++) {
                densest = Math.max(densest, Integer.bitCount(passPixel()));
            }
        }
        return densest;
    }

    public int next(int x, int y, int inks) {
        if (!isCorner(x, y) || inks < 0 || inks > 15) {
            return NONE;
        }
        startRow(x, y);
        for (int i = 0; i <= AHEAD_MOST; i++) {
            if (passPixel() == inks) {
                return i;
            }
        }
        return NONE;
    }

    /** Puts all inks to a pixel, from where passPixel goes to the right. */
    private void startRow(int x, int y) {
        for (int i = 0; i < held; i++) {
            inks[i].startRow(x, y);
        }
    }

    /** The set of inks at the pixel, which is then passed. */
    private int passPixel() {
        int set = 0;
        for (int i = 0; i < held; i++) {
            if (inks[i].passPixel()) {
                set |= 1 << i;
            }
        }
        return set;
    }

    // ---- screens chosen

    public int choose(int n, int low, int high, boolean isFar, int i, int what) {
        if (n < 2 || n > 3 || i < 0 || i >= n || !isAxis(what)) {
            return NONE;
        }
        if (low < 1 || low > CELL_MOST || high < 1 || high > CELL_MOST || high - low > SPAN_MOST) {
            return NONE;
        }
        chooser.pick(n, low, high, isFar);
        return chooser.part(i, what);
    }

    public int bestTurn(int ink, int what) {
        if (!isInk(ink) || !isAxis(what) || held < 2) {
            return NONE;
        }
        int bestA = NONE;
        int bestB = NONE;
        long bestUpper = 0;
        long bestLower = 1;
        for (int a = 1; a <= PAIR_MOST; a++) {
            for (int b = 0; b <= PAIR_MOST; b++) {
                if (a * a + b * b != inks[ink].cell) {
                    continue;
                }
                square.takeSquare(a, b);
                leastFarBeside(ink);
                if (isFarther(leastUpper, leastLower, bestUpper, bestLower)) {
                    bestUpper = leastUpper;
                    bestLower = leastLower;
                    bestA = a;
                    bestB = b;
                }
            }
        }
        return what == 0 ? bestA : bestB;
    }

    /** The least FAR of the square with all inks but one; 1 by 0 stands for what nothing is farther than. */
    private void leastFarBeside(int ink) {
        leastUpper = 1;
        leastLower = 0;
        for (int i = 0; i < held; i++) {
            if (i == ink) {
                continue;
            }
            beating.compare(square, inks[i].screen);
            if (!beating.isAlike && isFarther(leastUpper, leastLower, beating.upper, beating.lower)) {
                leastUpper = beating.upper;
                leastLower = beating.lower;
            }
        }
    }

    // ---- by hand

    public int screen(int ink, int a, int b, int c, int d) {
        if (!isInk(ink)) {
            return refuse(NOT_THERE);
        }
        if (!isWithin(a, PAIR_MOST) || !isWithin(b, PAIR_MOST) || !isWithin(c, PAIR_MOST)
                || !isWithin(d, PAIR_MOST) || !isCell(a * d - b * c)) {
            return refuse(OUT_OF_BOUNDS);
        }
        Ink one = inks[ink];
        if (one.screen.isTold(a, b, c, d)) {
            return refuse(IS_SO);
        }
        int was = one.cell;
        one.takeScreen(a, b, c, d);
        return was;
    }

    public int shape(int ink, int spot) {
        if (!isInk(ink)) {
            return refuse(NOT_THERE);
        }
        if (spot < ROUND || spot > LINE) {
            return refuse(OUT_OF_BOUNDS);
        }
        int was = inks[ink].kind;
        if (was == spot) {
            return refuse(IS_SO);
        }
        inks[ink].takeSpot(spot);
        return was;
    }

    public int tone(int ink, int tone) {
        if (!isInk(ink)) {
            return refuse(NOT_THERE);
        }
        if (tone < 0 || tone > TONE_MOST) {
            return refuse(OUT_OF_BOUNDS);
        }
        int was = inks[ink].tone;
        if (was == tone) {
            return refuse(IS_SO);
        }
        inks[ink].tone = tone;
        return was;
    }

    public int offset(int ink, int x, int y) {
        if (!isInk(ink)) {
            return refuse(NOT_THERE);
        }
        if (!isWithin(x, OFFSET_MOST) || !isWithin(y, OFFSET_MOST)) {
            return refuse(OUT_OF_BOUNDS);
        }
        Ink one = inks[ink];
        int moved = Math.abs(x - one.offsetX) + Math.abs(y - one.offsetY);
        if (moved == 0) {
            return refuse(IS_SO);
        }
        one.offsetX = x;
        one.offsetY = y;
        return moved;
    }

    public boolean swap(int ink, int other) {
        if (!isInk(ink) || !isInk(other)) {
            refuse(NOT_THERE);
            return false;
        }
        if (ink == other) {
            refuse(IS_SO);
            return false;
        }
        Ink one = inks[ink];
        inks[ink] = inks[other];
        inks[other] = one;
        return true;
    }

    public int drop(int ink) {
        if (!isInk(ink)) {
            return refuse(NOT_THERE);
        }
        Ink gone = inks[ink];
        for (int i = ink; i < held - 1; i++) {
            inks[i] = inks[i + 1];
        }
        held--;
        // kept behind those in use, so that its rows are used again
        inks[held] = gone;
        return held;
    }

    private int refuse(int why) {
        refused[why]++;
        return NONE;
    }

    public int status(int what) {
        return what < 0 || what >= refused.length ? NONE : refused[what];
    }

    // ---- of all inks

    public int most(int what) {
        switch (what) {
            case 0: return endCouple(false);
            case 1: return endCouple(true);
            case 2: return alikeCouples();
            case 3: return greatestCell();
            case 4: return inkedPixels();
            case 5: return inksGrown(false);
            case 6: return inksGrown(true);
            default: return NONE;
        }
    }

    /** The couple whose FAR is greatest, or least. */
    private int endCouple(boolean isGreatest) {
        int couple = NONE;
        long upper = 0;
        long lower = 0;
        for (int i = 0; i < held; i++) {
            for (int j = i + 1; j < held; j++) {
                beating.compare(inks[i].screen, inks[j].screen);
                boolean isBetter = isGreatest
                        ? isFarther(beating.upper, beating.lower, upper, lower)
                        : isFarther(upper, lower, beating.upper, beating.lower);
                if (couple == NONE || isBetter) {
                    couple = 10 * i + j;
                    upper = beating.upper;
                    lower = beating.lower;
                }
            }
        }
        return couple;
    }

    private int alikeCouples() {
        int alike = 0;
        for (int i = 0; i < held; i++) {
            for (int j = i + 1; j < held; j++) {
                beating.compare(inks[i].screen, inks[j].screen);
                if (beating.isAlike) {
                    alike++;
                }
            }
        }
        return alike;
    }

    private int greatestCell() {
        int greatest = 0;
        for (int i = 0; i < held; i++) {
            greatest = Math.max(greatest, inks[i].cell);
        }
        return greatest;
    }

    private int inkedPixels() {
        int sum = 0;
        for (int i = 0; i < held; i++) {
            sum += inks[i].level();
        }
        return sum;
    }

    private int inksGrown(boolean isSolid) {
        int set = 0;
        for (int i = 0; i < held; i++) {
            growth.grow(inks[i]);
            if (inks[i].level() >= (isSolid ? inks[i].solid : inks[i].touch)) {
                set |= 1 << i;
            }
        }
        return set;
    }

    public int count(int what) {
        switch (what) {
            case 0: return held;
            case 1: return tape.length;
            default: return HIDDEN;
        }
    }

    // ---- bounds

    private boolean isInk(int ink) {
        return ink >= 0 && ink < held && ink < INKS_MOST;
    }

    private boolean isSet(int set) {
        return set >= 0 && set < 1 << held;
    }

    private static boolean isAxis(int axis) {
        return axis == 0 || axis == 1;
    }

    private static boolean isWithin(int n, int most) {
        return n >= -most && n <= most;
    }

    private static boolean isPixel(int x, int y) {
        return isWithin(x, PIXEL_MOST) && isWithin(y, PIXEL_MOST);
    }

    private static boolean isCorner(int x, int y) {
        return isWithin(x, CORNER_MOST) && isWithin(y, CORNER_MOST);
    }

    private static boolean isWindow(int x, int y, int w, int h) {
        return isCorner(x, y) && w >= 1 && w <= SIDE_MOST && h >= 1 && h <= SIDE_MOST;
    }

    /** Whether a signed area is that of a CELL. */
    private static boolean isCell(int area) {
        return area != 0 && isWithin(area, CELL_MOST);
    }

    // ---- whole numbers

    private static int bytesIn(int word) {
        int bytes = 0;
        for (int shift = 24; shift >= 0; shift -= 8) {
            if ((word >> shift & 255) != 0) {
                bytes++;
            }
        }
        return bytes;
    }

    private static int at(int[] row, int i) {
        return i >= 0 && i < row.length ? row[i] : NONE;
    }

    private static long div(long n, long by) {
        return by > 0 ? Math.floorDiv(n, by) : 0;
    }

    private static long mod(long n, long by) {
        return by > 0 ? Math.floorMod(n, by) : 0;
    }

    private static long commonPart(long p, long q) {
        long one = Math.abs(p);
        long other = Math.abs(q);
        for (int i = 0; i < STEPS_MOST && other != 0; i++) {
            long left = one % other;
            one = other;
            other = left;
        }
        return one;
    }

    private static long commonMultiple(long p, long q) {
        return div(p, commonPart(p, q)) * q;
    }

    private static int lowest(int part, int x, int y) {
        return (int) div(part, commonPart(x, y));
    }

    private static long rootOf(long n) {
        long root = 0;
        for (long bit = 1L << 30; bit > 0; bit >>= 1) {
            if ((root + bit) * (root + bit) <= n) {
                root += bit;
            }
        }
        return root;
    }

    /** X once quarter turns have brought a pair to X above 0 and Y not below 0: one of its parts without sign. */
    private static int turnedX(int x, int y) {
        return x > 0 && y >= 0 || x < 0 && y <= 0 ? Math.abs(x) : Math.abs(y);
    }

    private static int turnedY(int x, int y) {
        return x > 0 && y >= 0 || x < 0 && y <= 0 ? Math.abs(y) : Math.abs(x);
    }

    /** Whether the first fraction is above the second; parts stay below 144 to the fourth, so products fit. */
    private static boolean isFarther(long upper, long lower, long upper2, long lower2) {
        return upper * lower2 > upper2 * lower;
    }

    /** The bytes fed. */
    private static final class Tape {
        private final int[] bytes = new int[TAPE_MOST];
        private int length;

        void put(int word) {
            for (int shift = 24; shift >= 0; shift -= 8) {
                int sign = word >> shift & 255;
                if (sign != 0 && length >= 0 && length < bytes.length) {
                    bytes[length] = sign;
                    length++;
                }
            }
        }
    }

    /** Reads a TEXT into rows of eight numbers a clause, or up to its FAULT. */
    private static final class Reader {
        static final int A = 0;
        static final int B = 1;
        static final int C = 2;
        static final int D = 3;
        static final int SPOT = 4;
        static final int TONE = 5;
        static final int OFFSET_X = 6;
        static final int OFFSET_Y = 7;
        private static final int PARTS = 8;
        private static final int TONE_WITHOUT = 50;
        private static final int END = -1;

        private final int[] parts = new int[INKS_MOST * PARTS];
        private final Tape tape;
        private int place;
        private int sign;
        private int clauses;
        private int wrong;
        private int had;

        Reader(Tape from) {
            tape = from;
        }

        int told(int clause, int part) {
            return at(parts, clause * PARTS + part);
        }

        private void tell(int part, int value) {
            int i = clauses * PARTS + part;
            if (i >= 0 && i < parts.length) {
                parts[i] = value;
            }
        }

        void read() {
            place = -1;
            clauses = 0;
            wrong = NONE;
            pass();
            if (sign == END) {
                return;
            }
            // a fifth clause is wrong at its s, so this ends there at the latest
            for (int i = 0; i <= INKS_MOST && readClause() && sign == ';'; i++) {
                pass();
            }
        }

        private void move() {
            place++;
            sign = place >= 0 && place < tape.length && place < TAPE_MOST ? tape.bytes[place] : END;
        }

        /** Moves on, and over blanks. */
        private void pass() {
            move();
            for (int i = 0; i < TAPE_MOST && sign == ' '; i++) {
                move();
            }
        }

        private boolean failAt(int where) {
            wrong = where;
            return false;
        }

        /** Leaves the reader at a ; or at the end, if it reads a clause. */
        private boolean readClause() {
            if (sign != 's' || clauses >= INKS_MOST) {
                return failAt(place);
            }
            pass();
            if (!readScreen()) {
                return false;
            }
            had = 0;
            tell(SPOT, ROUND);
            tell(TONE, TONE_WITHOUT);
            tell(OFFSET_X, 0);
            tell(OFFSET_Y, 0);
            for (int i = 0; i < TAPE_MOST && sign != END && sign != ';'; i++) {
                if (!readLetter()) {
                    return false;
                }
            }
            clauses++;
            return true;
        }

        private boolean readScreen() {
            if (!readCouple(A, PAIR_MOST)) {
                return false;
            }
            if (sign == ',') {
                pass();
                return readCouple(C, PAIR_MOST);
            }
            tell(C, -told(clauses, B));
            tell(D, told(clauses, A));
            return true;
        }

        private boolean readLetter() {
            int letter = sign;
            int part = partOf(letter);
            if (part == NONE || (had >> part & 1) == 1) {
                return failAt(place);
            }
            had |= 1 << part;
            pass();
            switch (letter) {
                case 't': return readNumber(TONE, TONE_MOST, 3);
                case 'o': return readCouple(OFFSET_X, OFFSET_MOST);
                default:
                    tell(SPOT, letter == 'r' ? ROUND : letter == 'd' ? DIAMOND : LINE);
                    return true;
            }
        }

        private static int partOf(int letter) {
            switch (letter) {
                case 'r':
                case 'd':
                case 'l': return SPOT;
                case 't': return TONE;
                case 'o': return OFFSET_X;
                default: return NONE;
            }
        }

        private boolean readCouple(int part, int most) {
            if (!readNumber(part, most, 2)) {
                return false;
            }
            if (sign != ',') {
                return failAt(place);
            }
            pass();
            return readNumber(part + 1, most, 2);
        }

        private boolean readNumber(int part, int most, int digitsMost) {
            boolean isBelow = sign == '-' && part != TONE;
            if (isBelow) {
                // no blank may stand behind it, so none is passed
                move();
            }
            int value = 0;
            int digits = 0;
            for (int i = 0; i < TAPE_MOST && sign >= '0' && sign <= '9'; i++) {
                if (digits == digitsMost) {
                    return failAt(place);
                }
                value = value * 10 + sign - '0';
                digits++;
                move();
            }
            if (digits == 0) {
                return failAt(place);
            }
            if (value > most) {
                return failAt(place - 1);
            }
            tell(part, isBelow ? -value : value);
            if (sign == ' ') {
                pass();
            }
            return true;
        }
    }

    /** The two pairs of a screen, U (a, b) and V (c, d). */
    private static final class Screen {
        private int a = 1;
        private int b;
        private int c;
        private int d = 1;

        void take(int newA, int newB, int newC, int newD) {
            a = newA;
            b = newB;
            c = newC;
            d = newD;
        }

        void takeSquare(int newA, int newB) {
            take(newA, newB, -newB, newA);
        }

        boolean isTold(int otherA, int otherB, int otherC, int otherD) {
            return a == otherA && b == otherB && c == otherC && d == otherD;
        }

        /** The CELL with its sign. */
        int area() {
            return a * d - b * c;
        }

        /** WAVES as whole numbers, by the area. */
        int waveX(int wave) {
            int x = (wave & 1) == 0 ? d : -b;
            return wave < 2 ? x : -x;
        }

        int waveY(int wave) {
            int y = (wave & 1) == 0 ? -c : a;
            return wave < 2 ? y : -y;
        }
    }

    /** A lattice told by its BRICK; in long, as cells in common go up to 144 to the fourth. */
    private static final class Grid {
        private long wide = 1;
        private long high = 1;
        private long slant;

        /** All whole points: what meets any grid in that grid itself. */
        void takeAll() {
            wide = 1;
            high = 1;
            slant = 0;
        }

        /** Euclid's steps on Y bring the second pair down onto the X axis. */
        void take(Screen screen) {
            long x = screen.a;
            long y = screen.b;
            long nextX = screen.c;
            long nextY = screen.d;
            for (int i = 0; i < STEPS_MOST && nextY != 0; i++) {
                long times = y / nextY;
                long leftX = x - times * nextX;
                long leftY = y - times * nextY;
                x = nextX;
                y = nextY;
                nextX = leftX;
                nextY = leftY;
            }
            wide = Math.abs(nextX);
            high = Math.abs(y);
            slant = mod(y < 0 ? -x : x, wide);
        }

        /** Keeps the points that are of an ink's grid, too. */
        void meet(Grid other) {
            long rise = commonMultiple(high, other.high);
            long x = div(rise, high) * slant;
            long otherX = div(rise, other.high) * other.slant;
            long part = commonPart(wide, other.wide);
            long times = div(part, commonPart(part, x - otherX));
            x *= times;
            otherX *= times;
            for (int i = 0; i < CELL_MOST && mod(x - otherX, other.wide) != 0; i++) {
                x += wide;
            }
            wide = commonMultiple(wide, other.wide);
            high = times * rise;
            slant = mod(x, wide);
        }

        long supercell() {
            long rise = high * div(wide, commonPart(wide, slant));
            return commonMultiple(wide, rise);
        }
    }

    /** Finds the REDUCED moves of a grid. */
    private static final class Reduction {
        private long shortX;
        private long shortY;
        private long longX;
        private long longY;
        private long firstX;
        private long firstY;
        private long secondX;
        private long secondY;

        void reduce(Grid grid) {
            shorten(grid);
            findFirst();
            findSecond(grid.wide * grid.high);
        }

        long part(int what) {
            switch (what) {
                case 0: return firstX;
                case 1: return firstY;
                case 2: return secondX;
                default: return secondY;
            }
        }

        /** Lagrange's steps: all shortest moves are then sums of at most one of each. */
        private void shorten(Grid grid) {
            shortX = grid.wide;
            shortY = 0;
            longX = grid.slant;
            longY = grid.high;
            for (int i = 0; i < STEPS_MOST; i++) {
                if (square(longX, longY) < square(shortX, shortY)) {
                    swapMoves();
                }
                long length = square(shortX, shortY);
                long along = shortX * longX + shortY * longY;
                long times = div(2 * along + length, 2 * length);
                if (times == 0) {
                    return;
                }
                longX -= times * shortX;
                longY -= times * shortY;
            }
        }

        private void swapMoves() {
            long x = shortX;
            long y = shortY;
            shortX = longX;
            shortY = longY;
            longX = x;
            longY = y;
        }

        private void findFirst() {
            firstX = shortX;
            firstY = shortY;
            for (int i = -1; i <= 1; i++) {
                for (int j = -1; j <= 1; j++) {
                    long x = i * shortX + j * longX;
                    long y = i * shortY + j * longY;
                    if ((i != 0 || j != 0) && isAhead(x, y, firstX, firstY)) {
                        firstX = x;
                        firstY = y;
                    }
                }
            }
        }

        /** Only moves that span a whole cell with the first one make the grid together with it. */
        private void findSecond(long cell) {
            boolean isFound = false;
            for (int i = -2; i <= 2; i++) {
                for (int j = -2; j <= 2; j++) {
                    long x = i * shortX + j * longX;
                    long y = i * shortY + j * longY;
                    if (Math.abs(firstX * y - firstY * x) != cell) {
                        continue;
                    }
                    if (!isFound || isAhead(x, y, secondX, secondY)) {
                        isFound = true;
                        secondX = x;
                        secondY = y;
                    }
                }
            }
        }

        private static long square(long x, long y) {
            return x * x + y * y;
        }

        private static boolean isAhead(long x, long y, long otherX, long otherY) {
            long length = square(x, y);
            long otherLength = square(otherX, otherY);
            if (length != otherLength) {
                return length < otherLength;
            }
            return x != otherX ? x > otherX : y > otherY;
        }
    }

    /** An ink; its homes are numbered row by row, so that their order is by Y, then X. */
    private static final class Ink {
        private final Screen screen = new Screen();
        private final Grid grid = new Grid();
        private int cell = 1;
        private int kind;
        private int tone;
        private int offsetX;
        private int offsetY;
        private final int[] spots = new int[CELL_MOST];
        private final int[] ranks = new int[CELL_MOST];
        private final int[] order = new int[CELL_MOST];
        private final int[] lots = new int[CELL_MOST + 1];
        private int touch;
        private int solid;
        private boolean isSorted;
        private boolean isGrown;
        private int rowStart;
        private int column;
        private int rowLevel;

        /** The pairs must make a CELL. */
        void takeScreen(int a, int b, int c, int d) {
            screen.take(a, b, c, d);
            grid.take(screen);
            cell = Math.min(Math.abs(screen.area()), CELL_MOST);
            isSorted = false;
            isGrown = false;
        }

        void takeSpot(int newKind) {
            kind = newKind;
            isSorted = false;
            isGrown = false;
        }

        int level() {
            return (cell * tone + 50) / 100;
        }

        /** The number of a pixel's home. */
        int placeOf(int x, int y) {
            return placeFrom(x - offsetX, y - offsetY);
        }

        /** The same with the offset taken away. */
        int placeFrom(int x, int y) {
            long rows = div(y, grid.high);
            return (int) ((y - rows * grid.high) * grid.wide + mod(x - rows * grid.slant, grid.wide));
        }

        int axisOf(int place, int axis) {
            return (int) (axis == 0 ? mod(place, grid.wide) : div(place, grid.wide));
        }

        /** Pixels to the right of one another have homes in one row of the brick: no need to find each anew. */
        void startRow(int x, int y) {
            sort();
            int place = placeOf(x, y);
            column = axisOf(place, 0);
            rowStart = place - column;
            rowLevel = level();
        }

        /** Whether the pixel takes ink; the next one to the right is asked then. */
        boolean passPixel() {
            boolean takesInk = at(ranks, rowStart + column) < rowLevel;
            column++;
            if (column >= grid.wide) {
                column = 0;
            }
            return takesInk;
        }

        void sort() {
            if (isSorted) {
                return;
            }
            for (int i = 0; i < cell; i++) {
                int value = spotOf(axisOf(i, 0), axisOf(i, 1));
                spots[i] = value;
                int k = i;
                // only a greater one goes behind: those alike stay in the order of their numbers
                for (; k > 0 && at(spots, order[k - 1]) > value; k--) {
                    order[k] = order[k - 1];
                }
                order[k] = i;
            }
            for (int i = 0; i < cell; i++) {
                int place = order[i];
                if (place >= 0 && place < ranks.length) {
                    ranks[place] = i;
                }
            }
            isSorted = true;
        }

        private int spotOf(int x, int y) {
            if (kind == LINE) {
                int left = (int) mod((2 * x + 1) * screen.b - (2 * y + 1) * screen.a, 2 * cell);
                return Math.min(left, 2 * cell - left);
            }
            int best = spotInRow(x, y, 0);
            // a row is at least one high, and the nearest point less than 144 rows away
            for (int row = 1; row <= CELL_MOST && inRows(y, row) < best; row++) {
                best = Math.min(best, spotInRow(x, y, row));
            }
            for (int row = -1; row >= -CELL_MOST && inRows(y, row) < best; row--) {
                best = Math.min(best, spotInRow(x, y, row));
            }
            return best;
        }

        /** The part of a spot that the way to a row of points makes alone: no point of the row has less. */
        private int inRows(int y, int row) {
            return measure(0, riseTo(y, row));
        }

        private int riseTo(int y, int row) {
            return (int) Math.abs(2 * y + 1 - 2 * row * grid.high);
        }

        private int spotInRow(int x, int y, int row) {
            int round = (int) (2 * grid.wide);
            int left = (int) mod(2 * x + 1 - 2 * row * grid.slant, round);
            return measure(Math.min(left, round - left), riseTo(y, row));
        }

        private int measure(int wayX, int wayY) {
            return kind == DIAMOND ? wayX + wayY : wayX * wayX + wayY * wayY;
        }
    }

    /** Lets an ink's homes come in by rank and joins them to lots, each home with its way from the lot's root. */
    private static final class Growth {
        private final int[] roots = new int[CELL_MOST];
        private final int[] wayX = new int[CELL_MOST];
        private final int[] wayY = new int[CELL_MOST];
        private final int[] sizes = new int[CELL_MOST];
        private int foundX;
        private int foundY;
        private int lots;
        private int touch;
        private int solid;
        private int roundX;
        private int roundY;

        void grow(Ink ink) {
            if (ink.isGrown) {
                return;
            }
            ink.sort();
            lots = 0;
            touch = 0;
            solid = 0;
            ink.lots[0] = 0;
            for (int rank = 0; rank < ink.cell; rank++) {
                comeIn(ink, at(ink.order, rank), rank);
                ink.lots[rank + 1] = lots;
            }
            ink.touch = touch;
            ink.solid = solid;
            ink.isGrown = true;
        }

        private void comeIn(Ink ink, int place, int rank) {
            if (!isPlace(place)) {
                return;
            }
            roots[place] = place;
            wayX[place] = 0;
            wayY[place] = 0;
            sizes[place] = 1;
            lots++;
            int x = ink.axisOf(place, 0);
            int y = ink.axisOf(place, 1);
            for (int side = 0; side < 4; side++) {
                int sideX = side == 0 ? x + 1 : side == 1 ? x - 1 : x;
                int sideY = side == 2 ? y + 1 : side == 3 ? y - 1 : y;
                int beside = ink.placeFrom(sideX, sideY);
                if (isPlace(beside) && at(ink.ranks, beside) <= rank) {
                    int moveX = sideX - ink.axisOf(beside, 0);
                    int moveY = sideY - ink.axisOf(beside, 1);
                    join(place, beside, moveX, moveY, rank + 1);
                }
            }
        }

        private static boolean isPlace(int place) {
            return place >= 0 && place < CELL_MOST;
        }

        private void join(int place, int beside, int moveX, int moveY, int level) {
            int root = find(place);
            int x = foundX + moveX;
            int y = foundY + moveY;
            int other = find(beside);
            x -= foundX;
            y -= foundY;
            if (root == other) {
                comeRound(x, y, level);
                return;
            }
            lots--;
            if (sizes[root] < sizes[other]) {
                hang(root, other, -x, -y);
            } else {
                hang(other, root, x, y);
            }
        }

        private void hang(int lesser, int greater, int x, int y) {
            roots[lesser] = greater;
            wayX[lesser] = x;
            wayY[lesser] = y;
            sizes[greater] += sizes[lesser];
        }

        /** The root of a home, which leaves the way to the home from there in foundX and foundY. */
        private int find(int place) {
            foundX = 0;
            foundY = 0;
            int root = place;
            for (int i = 0; i < CELL_MOST && isPlace(roots[root]) && roots[root] != root; i++) {
                foundX += wayX[root];
                foundY += wayY[root];
                root = roots[root];
            }
            return root;
        }

        /** A way from a pixel to one of the same home; two closed ways not along one line always meet. */
        private void comeRound(int x, int y, int level) {
            if (x == 0 && y == 0) {
                return;
            }
            if (touch == 0) {
                touch = level;
                roundX = x;
                roundY = y;
            } else if (solid == 0 && roundX * y != roundY * x) {
                solid = level;
            }
        }
    }

    /** The BEAT of two screens and its FAR. */
    private static final class Beat {
        private int x;
        private int y;
        private int wave;
        private int otherWave;
        private boolean isAlike;
        private long upper;
        private long lower;

        void compare(Screen one, Screen other) {
            int area = one.area();
            int otherArea = other.area();
            int best = 0;
            isAlike = false;
            for (int i = 0; i < 4; i++) {
                for (int j = 0; j < 4; j++) {
                    int wayX = otherArea * one.waveX(i) - area * other.waveX(j);
                    int wayY = otherArea * one.waveY(i) - area * other.waveY(j);
                    int length = wayX * wayX + wayY * wayY;
                    if (length == 0) {
                        isAlike = true;
                    } else if (best == 0 || length < best) {
                        best = length;
                        x = wayX;
                        y = wayY;
                        wave = i;
                        otherWave = j;
                    }
                }
            }
            long areas = (long) area * otherArea;
            long part = commonPart(areas * areas, best);
            upper = div(areas * areas, part);
            lower = div(best, part);
        }
    }

    /** Chooses two or three squares; the last choice is kept, as its parts are asked one by one. */
    private static final class Chooser {
        /** No span of 21 cells has more squares than this. */
        private static final int SQUARES_MOST = 20;

        private final int[] squareA = new int[SQUARES_MOST];
        private final int[] squareB = new int[SQUARES_MOST];
        private int squares;
        private final long[] uppers = new long[SQUARES_MOST * SQUARES_MOST];
        private final long[] lowers = new long[SQUARES_MOST * SQUARES_MOST];
        private final Screen one = new Screen();
        private final Screen other = new Screen();
        private final Beat beat = new Beat();
        private final int[] chosen = new int[3];
        private int bestCouple;
        private int lastN;
        private int lastLow;
        private int lastHigh;
        private boolean lastFar;

        void pick(int n, int low, int high, boolean isFar) {
            if (n == lastN && low == lastLow && high == lastHigh && isFar == lastFar) {
                return;
            }
            lastN = n;
            lastLow = low;
            lastHigh = high;
            lastFar = isFar;
            listSquares(low, high);
            compareSquares();
            bestCouple = NONE;
            for (int i = 0; i < squares; i++) {
                for (int j = i + 1; j < squares; j++) {
                    if (n == 2) {
                        propose(coupleOf(i, j), i, j, j);
                    } else {
                        proposeThirds(i, j);
                    }
                }
            }
        }

        int part(int i, int what) {
            if (bestCouple == NONE || i < 0 || i >= chosen.length) {
                return NONE;
            }
            return at(what == 0 ? squareA : squareB, chosen[i]);
        }

        private void listSquares(int low, int high) {
            squares = 0;
            for (int cell = low; cell <= high && cell <= CELL_MOST; cell++) {
                for (int a = 1; a <= PAIR_MOST; a++) {
                    for (int b = 0; b <= PAIR_MOST; b++) {
                        if (a * a + b * b == cell && squares >= 0 && squares < SQUARES_MOST) {
                            squareA[squares] = a;
                            squareB[squares] = b;
                            squares++;
                        }
                    }
                }
            }
        }

        private void compareSquares() {
            for (int i = 0; i < squares; i++) {
                for (int j = i + 1; j < squares; j++) {
                    one.takeSquare(squareA[i], squareB[i]);
                    other.takeSquare(squareA[j], squareB[j]);
                    beat.compare(one, other);
                    uppers[coupleOf(i, j)] = beat.upper;
                    lowers[coupleOf(i, j)] = beat.lower;
                }
            }
        }

        private void proposeThirds(int i, int j) {
            for (int k = j + 1; k < squares; k++) {
                int couple = coupleOf(i, j);
                couple = isBehind(coupleOf(i, k), couple) ? coupleOf(i, k) : couple;
                couple = isBehind(coupleOf(j, k), couple) ? coupleOf(j, k) : couple;
                propose(couple, i, j, k);
            }
        }

        /** A row is as good as its worst couple. */
        private void propose(int couple, int i, int j, int k) {
            if (bestCouple == NONE || isBehind(bestCouple, couple)) {
                bestCouple = couple;
                chosen[0] = i;
                chosen[1] = j;
                chosen[2] = k;
            }
        }

        private boolean isBehind(int couple, int than) {
            int nearer = lastFar ? couple : than;
            int farther = lastFar ? than : couple;
            if (nearer < 0 || nearer >= uppers.length || farther < 0 || farther >= uppers.length) {
                return false;
            }
            return isFarther(uppers[farther], lowers[farther], uppers[nearer], lowers[nearer]);
        }

        private static int coupleOf(int i, int j) {
            return i * SQUARES_MOST + j;
        }
    }
}
