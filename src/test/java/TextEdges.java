import java.util.function.Supplier;

/** Boundary cases of the tape, its text and what an ink is told to be: promises 1 to 6 and 36. */
final class TextEdges {
    private static final int NONE = Edge.NONE;
    private static final int HIDDEN = Edge.HIDDEN;
    private static final int TERMS = Edge.TERMS;
    private static final int[] EXTREMES = {Integer.MIN_VALUE, Integer.MAX_VALUE};

    private TextEdges() {
    }

    static void run() {
        noInks();
        feeds();
        fullTape();
        ends();
        faults();
        bytesThatGoOn();
        clauses();
        screensOfText();
        letters();
        numbers();
        blanks();
        leftOut();
        texts();
        inkAnswers();
        counts();
        constants();
    }

    private static void noInks() {
        Edge.of(1, "No INKS.");
        DotScreens x = new DotScreens();
        Edge.dueRow(x, "count(#)", 0, 0);
        Edge.dueRow(x, "status(#)", 0, 0, 0);
        Edge.dueRow(x, "ink(#, 4)", Ask.THROWS, Ask.THROWS, Ask.THROWS, Ask.THROWS);
        for (String call : new String[] {"brick(0, 0)", "home(0, 0, 0, 0)", "reduced(0, 0)", "ranked(0, 0, 0)",
            "slope(0, 0)", "turn(0, 0, 0)", "turn(0, 1, 0)", "beat(0, 1, 0)", "far(0, 1, 0)", "common(0, 0)",
            "common(1, 0)", "common(15, 8)", "inCell(1, 0)"}) {
            Edge.refused(DotScreens::new, call, HIDDEN);
        }
        for (String call : new String[] {"spot(0, 0, 0)", "rank(0, 0, 0)", "dots(0, 0)", "grown(0, 0)",
            "bestTurn(0, 0)", "most(0)", "most(1)", "window(0, 0, 1, 1, 0, 1)", "window(0, 0, 1, 1, 1, 1)",
            "next(0, 0, 1)"}) {
            Edge.refused(DotScreens::new, call, NONE);
        }
        for (String call : new String[] {"screen(0, 1, 0, 0, 1)", "shape(0, 1)", "tone(0, 1)", "offset(0, 1, 1)",
            "drop(0)"}) {
            Edge.refused(DotScreens::new, call, NONE, 0);
        }
        Edge.refused(DotScreens::new, "swap(0, 1)", 0, 0);
        Edge.refused(DotScreens::new, "inked(0, 0, 0)", 0);
        Edge.due(x, "overlay(0, 0)", 0);
        Edge.due(x, "window(-7, 7, 4, 3, 0, 0)", 12);
        Edge.due(x, "window(-7, 7, 4, 3, 1, 0)", 12);
        Edge.due(x, "densest(0, 0, 32, 32)", 0);
        Edge.due(x, "next(0, 0, 0)", 0);
        Edge.due(x, "choose(2, 1, 2, true, 1, 1)", 1);
        Edge.due(x, "fault()", NONE);
        Edge.due(x, "end(0)", 1);
        Edge.due(x, "text()", 0);
    }

    private static void feeds() {
        String twenty = "s-1,2,3,4lt100o-9,-8";
        Edge.of(2, "Twenty bytes more come to the TAPE");
        DotScreens x = new DotScreens();
        Edge.due("twenty", Check.feed(x, twenty), 20);
        Edge.due(x, "text()", 1);
        Edge.dueRow(x, "ink(0, #)", -1, 2, 3, 4, 10, 2, 100, 10, -9, -8);

        Edge.of(2, "(of each number the highest first; ");
        DotScreens y = new DotScreens();
        Edge.due("s4,1r;s3,2d;s3,1,1,2", y.feed(0x73342c31, 0x723b7333, 0x2c32643b, 0x73332c31, 0x2c312c32), 20);
        Edge.due(y, "text()", 3);
        Edge.dueRow(y, "ink(0, #)", 4, 1, -1, 4);
        Edge.dueRow(y, "ink(1, #)", 3, 2, -2, 3, 13, 1);
        Edge.dueRow(y, "ink(2, #)", 3, 1, 1, 2);

        Edge.of(2, "bytes of 0 are left out)");
        for (int hole = 0; hole < 20; hole++) {
            DotScreens z = new DotScreens();
            String blanks = " ".repeat(20);
            Edge.due("a 0 at " + hole, Check.feed(z, blanks.substring(0, hole) + (char) 0 + blanks.substring(hole + 1)), 19);
        }
        DotScreens holes = new DotScreens();
        Edge.due("holes", holes.feed(0x73000000, 0x00310000, 0x00002c00, 0x00000032, 0x00740000), 5);
        Edge.due("holes", holes.feed(0, 0, 0, 0, 0x00000037), 6);
        Edge.due(holes, "feed(0, 0, 0, 0, 0)", 6);
        Edge.due(holes, "text()", 1);
        Edge.dueRow(holes, "ink(0, #)", 1, 2, -2, 1, 5, 0, 7);

        Edge.of(2, ": how many it has. ");
        DotScreens more = new DotScreens();
        Edge.due("none", more.feed(0, 0, 0, 0, 0), 0);
        Edge.due("one", more.feed(0, 0, 0, 0, 32), 1);
        Edge.due("twenty more", Check.feed(more, twenty), 21);
        Edge.due("three more", Check.feed(more, ";s1"), 24);
        Edge.due(more, "count(1)", 24);
        everyByteCounts();
    }

    private static void everyByteCounts() {
        for (int sign = 1; sign < 256; sign++) {
            DotScreens x = new DotScreens();
            Edge.due("byte " + sign, x.feed(sign << 24, sign << 16, sign << 8, sign, sign << 24), 5);
            Edge.due("fault of bytes " + sign, x.fault(), sign == 32 ? NONE : sign == 's' ? 1 : 0);
        }
    }

    private static void fullTape() {
        Edge.of(2, "NONE: more than 160.");
        int blanks = 0x20202020;
        String all = "feed(" + blanks + ", " + blanks + ", " + blanks + ", " + blanks + ", " + blanks + ")";
        // a byte that comes of a refused feed is seen, as it is wrong: x behind what tells an ink
        int wrong = 'x';
        String one = "feed(0, 0, 0, 0, " + wrong + ")";
        String two = "feed(" + (wrong << 24) + ", 0, 0, 0, " + wrong + ")";
        String nineteen = all.replaceFirst("\\d+", Integer.toString(0x00202020));
        Edge.due(filled(140).get(), all, 160);
        Edge.refused(filled(141), all, NONE);
        Edge.due(filled(141).get(), nineteen, 160);
        Edge.refused(filled(142), nineteen, NONE);
        Edge.due(filled(159).get(), one, 160);
        Edge.refused(filled(159), two, NONE);
        Edge.refused(filled(160), one, NONE);
        Edge.refused(filled(160), all, NONE);
        Edge.due(filled(160).get(), "feed(0, 0, 0, 0, 0)", 160);
        DotScreens x = filled(160).get();
        Edge.due(x, "fault()", NONE);
        Edge.due(x, "text()", 1);
        Edge.dueRow(x, "ink(0, #)", 2, 1, -1, 2, 5, 2);
        Edge.due(x, all, 20);
        DotScreens y = filled(160).get();
        Edge.due(y, "end(159)", 1);
        Edge.due(y, two, NONE);
        Edge.due(y, one, 160);
        Edge.due(y, "fault()", 159);
        Edge.fault(" ".repeat(160), NONE);
        Edge.fault(" ".repeat(159) + "s", 160);
        lastByte();
        // a long text that tells four inks, all of the tape
        String longest = "s-12,-11,-11,-10dt100o-99,-99";
        DotScreens z = new DotScreens();
        Check.feed(z, " ".repeat(160 - 4 * longest.length() - 3) + String.join(";", longest, longest, longest, longest));
        Edge.due(z, "count(1)", 160);
        Edge.due(z, "text()", 4);
        Edge.dueRow(z, "ink(3, #)", -12, -11, -11, -10, 1, 1, 100, 1, -99, -99);
    }

    /** Whatever a byte is and wherever it comes, it is one byte: the last that there is room for, or one too many. */
    private static void lastByte() {
        for (int place = 0; place < 20; place++) {
            for (int sign : new int[] {1, 2, 4, 8, 16, 32, 64, 128, 129, 255}) {
                int[] words = new int[5];
                words[place / 4] = sign << 24 - place % 4 * 8;
                String call = "feed(" + words[0] + ", " + words[1] + ", " + words[2] + ", " + words[3] + ", " + words[4] + ")";
                DotScreens x = filled(159).get();
                Edge.due(x, call, 160);
                Edge.due(x, call, NONE);
                Edge.due(x, "count(1)", 160);
            }
        }
    }

    /** An object whose tape has so many bytes: an ink, with its last letter in the last byte. */
    private static Supplier<DotScreens> filled(int bytes) {
        return Edge.tape("s2,1" + " ".repeat(bytes - 5) + "l");
    }

    private static void ends() {
        Edge.of(3, "The TAPE has its first n bytes alone.");
        DotScreens x = Edge.tape("s2,1t20").get();
        Edge.due(x, "end(7)", 1);
        Edge.due(x, "count(1)", 7);
        Edge.due(x, "end(4)", 1);
        Edge.due(x, "count(1)", 4);
        Edge.due(x, "end(5)", 0);
        Edge.due("behind the first four", Check.feed(x, "0"), 5);
        Edge.due(x, "text()", 1);
        Edge.dueRow(x, "ink(0, #)", 2, 10, -10, 2, 104, 0, 50);
        DotScreens none = Edge.tape("s3,1t20").get();
        Edge.due(none, "end(0)", 1);
        Edge.dueRow(none, "count(#)", 0, 0);
        Edge.due(none, "fault()", NONE);
        Edge.due(none, "end(0)", 1);
        Edge.due(filled(160).get(), "end(160)", 1);

        Edge.of(3, "False: n.");
        for (int n : new int[] {-1, 8, 160, 161, Integer.MIN_VALUE, Integer.MAX_VALUE}) {
            Edge.refused(Edge.tape("s3,1t20"), "end(" + n + ")", 0);
        }
        for (int n : new int[] {-1, 1}) {
            Edge.refused(DotScreens::new, "end(" + n + ")", 0);
            Edge.refused(Edge.inksAndTape("s2,1;s3,0", ""), "end(" + n + ")", 0);
        }
        Edge.refused(filled(160), "end(161)", 0);
    }

    private static void faults() {
        Edge.of(4, "The FAULT of the TAPE.");
        DotScreens x = Edge.tape("s1,1;x").get();
        Edge.due(x, "fault()", 5);
        Edge.due(x, "fault()", 5);
        Edge.due(x, "count(1)", 6);
        Edge.changesNothing(Edge.tape("s1,1;x"), "fault()", 5);
        Edge.changesNothing(Edge.inksAndTape("s2,1;s3,0", "s1,1r l"), "fault()", 6);

        Edge.of(4, "NONE: none.");
        Edge.changesNothing(DotScreens::new, "fault()", NONE);
        Edge.changesNothing(Edge.inks("s2,1;s3,0"), "fault()", NONE);
        Edge.fault("s1,1", NONE);

        Edge.of(TERMS, "FAULT: the first byte at which no such TEXT can go on (the length, if it ends too early): ");
        String whole = "s-1,2,3,4lt100o-9,-8;s1,1";
        // how many bytes of it are a text
        boolean[] isText = new boolean[whole.length() + 1];
        for (int length : new int[] {0, 5, 9, 10, 12, 13, 14, 20, 25}) {
            isText[length] = true;
        }
        for (int length = 0; length <= whole.length(); length++) {
            Edge.fault(whole.substring(0, length), isText[length] ? NONE : length);
            Edge.fault(whole.substring(0, length) + "?", length);
            Edge.fault(whole.substring(0, length) + "??,;", length);
        }
        // blanks behind what ends too early are bytes, too; behind a - they are wrong
        Edge.fault("s1,1; ", 6);
        Edge.fault("s  ", 3);
        Edge.fault("s-  ", 2);
    }

    /** After what is told first, just these bytes go on; any other one is the FAULT. */
    private static void goOn(String ahead, String bytes) {
        for (int sign = 1; sign < 256; sign++) {
            DotScreens x = Edge.tape(ahead + (char) sign).get();
            boolean isWrong = x.fault() == ahead.length();
            Edge.due("'" + ahead + "' and byte " + sign + " is wrong", isWrong ? 1 : 0, bytes.indexOf(sign) < 0 ? 1 : 0);
        }
    }

    private static void bytesThatGoOn() {
        Edge.of(TERMS, "FAULT: the first byte at which no such TEXT can go on");
        String digits = "0123456789";
        goOn("", " s");
        goOn(" ", " s");
        goOn("s", " -" + digits);
        goOn("s-", digits);
        goOn("s0", " ," + digits);
        goOn("s1", " ,012");
        goOn("s-1", " ,012");
        goOn("s2", " ,");
        goOn("s12", " ,");
        goOn("s1 ", " ,");
        goOn("s1,", " -" + digits);
        goOn("s1,1", " ,;rdlto012");
        goOn("s1,-7", " ,;rdlto");
        goOn("s1,1 ", " ,;rdlto");
        goOn("s1,1,", " -" + digits);
        goOn("s1,1,1", " ,012");
        goOn("s1,1,1,", " -" + digits);
        goOn("s1,1,1,1", " ;rdlto012");
        goOn("s1,1,1,1 ", " ;rdlto");
        goOn("s1,1r", " ;to");
        goOn("s1,1d", " ;to");
        goOn("s1,1l", " ;to");
        goOn("s1,1t", " " + digits);
        goOn("s1,1t1", " ;rdlo" + digits);
        goOn("s1,1t10", " ;rdlo0");
        goOn("s1,1t11", " ;rdlo");
        goOn("s1,1t100", " ;rdlo");
        goOn("s1,1t5 ", " ;rdlo");
        goOn("s1,1o", " -" + digits);
        goOn("s1,1o-", digits);
        goOn("s1,1o9", " ," + digits);
        goOn("s1,1o99", " ,");
        goOn("s1,1o9,", " -" + digits);
        goOn("s1,1o9,9", " ;rdlt" + digits);
        goOn("s1,1o9,99", " ;rdlt");
        goOn("s1,1lt5o1,1 ", " ;");
        goOn("s1,1;", " s");
        goOn("s1,1;s", " -" + digits);
    }

    private static void clauses() {
        Edge.of(TERMS, "A TEXT tells them: CLAUSES with ; between, none to 4: ");
        Edge.fault("", NONE);
        Edge.fault(" ", NONE);
        Edge.fault("s1,1", NONE);
        Edge.fault("s1,1;s1,1", NONE);
        Edge.fault("s1,1;s1,1;s1,1", NONE);
        Edge.fault("s1,1;s1,1;s1,1;s1,1", NONE);
        Edge.fault(";", 0);
        Edge.fault(";s1,1", 0);
        Edge.fault("s1,1;", 5);
        Edge.fault("s1,1;;s1,1", 5);
        Edge.fault("s1,1s1,1", 4);
        Edge.fault("s1,1 s1,1", 5);
        Edge.fault("s1,1,s1,1", 5);
        Edge.due(Edge.tape(" ").get(), "text()", 0);
        Edge.due(Edge.tape("s1,1").get(), "text()", 1);
        Edge.due(Edge.tape("s1,1;s1,1;s1,1;s1,1").get(), "text()", 4);

        Edge.of(TERMS, "a fifth s. ");
        String four = "s1,1;s1,1;s1,1;s1,1";
        Edge.fault(four + ";", 20);
        Edge.fault(four + ";s", 20);
        Edge.fault(four + ";s1,1", 20);
        Edge.fault(four + " ; s1,1", 22);
        Edge.fault(four + ";?", 20);
        Edge.fault("s0,0;s0,0;s0,0;s0,0;s1,1", 20);
        Edge.refused(Edge.tape(four + ";s1,1"), "text()", NONE);

        Edge.of(TERMS, "INKS 0 .. 3 (those there are, in a row). ");
        DotScreens x = Check.told("s1,0;s1,1;s2,0;s2,1");
        Edge.dueRow(x, "ink(#, 4)", 1, 2, 4, 5, Ask.THROWS);
        Edge.due(x, "ink(-1, 4)", Ask.THROWS);
        Edge.dueRow(Check.told("s1,0;s1,1"), "ink(#, 4)", 1, 2, Ask.THROWS, Ask.THROWS);
        Edge.dueRow(Check.told("s3,0"), "ink(#, 4)", 9, Ask.THROWS);
    }

    private static void screensOfText() {
        Edge.of(TERMS, "s and A , B (V is -B, A then), or A , B , C , D; ");
        Edge.dueRow(Check.told("s3,-2"), "ink(0, #)", 3, -2, 2, 3, 13);
        Edge.dueRow(Check.told("s-3,2"), "ink(0, #)", -3, 2, -2, -3, 13);
        Edge.dueRow(Check.told("s0,5"), "ink(0, #)", 0, 5, -5, 0, 25);
        Edge.dueRow(Check.told("s5,0"), "ink(0, #)", 5, 0, 0, 5, 25);
        Edge.dueRow(Check.told("s3,-2,-1,4"), "ink(0, #)", 3, -2, -1, 4, 10);
        // what a clause ahead told does not stay
        Edge.dueRow(Check.told("s3,-2,-1,4;s1,2"), "ink(1, #)", 1, 2, -2, 1, 5);
        Edge.fault("s", 1);
        Edge.fault("s1", 2);
        Edge.fault("s1,", 3);
        Edge.fault("s1,1,1", 6);
        Edge.fault("s1,1,1;", 6);
        Edge.fault("s1,1,1,1,1", 8);
        Edge.fault("1,1", 0);

        Edge.of(TERMS, "A SCREEN: U (A, B), V (C, D), whole numbers -12 .. 12; ");
        for (int place = 0; place < 4; place++) {
            for (int n : new int[] {-13, -12, 12, 13}) {
                String[] parts = {"1", "1", "1", "1"};
                parts[place] = Integer.toString(n);
                String ahead = "s" + String.join(",", parts).substring(0, 2 * place);
                int last = ahead.length() + parts[place].length() - 1;
                Edge.fault("s" + String.join(",", parts), Math.abs(n) == 12 ? NONE : last);
            }
        }
        Edge.dueRow(Check.told("s12,-12,-12,11"), "ink(0, #)", 12, -12, -12, 11, 12);
        Edge.dueRow(Check.told("s-12,11,12,-12"), "ink(0, #)", -12, 11, 12, -12, 12);

        Edge.of(TERMS, "CELL: A D less B C, without sign, 1 .. 144. ");
        Edge.due(Check.told("s1,0"), "ink(0, 4)", 1);
        Edge.due(Check.told("s0,1,1,0"), "ink(0, 4)", 1);
        Edge.due(Check.told("s12,0"), "ink(0, 4)", 144);
        Edge.due(Check.told("s12,0,0,-12"), "ink(0, 4)", 144);
        Edge.due(Check.told("s11,1,-12,12"), "ink(0, 4)", 144);
    }

    private static void letters() {
        Edge.of(TERMS, "then letters, each once at most, and what they ask: r, d, l alone "
                + "(SPOT: ROUND, DIAMOND, LINE; one of these; r without), ");
        Edge.due(Check.told("s1,1"), "ink(0, 5)", 0);
        Edge.due(Check.told("s1,1r"), "ink(0, 5)", 0);
        Edge.due(Check.told("s1,1d"), "ink(0, 5)", 1);
        Edge.due(Check.told("s1,1l"), "ink(0, 5)", 2);
        Edge.due(Check.told("s1,1l;s1,1"), "ink(1, 5)", 0);
        for (String all : new String[] {"dt7o8,9", "do8,9t7", "t7do8,9", "t7o8,9d", "o8,9dt7", "o8,9t7d"}) {
            DotScreens x = Check.told("s1,1" + all);
            Edge.dueRow(x, "ink(0, #)", 1, 1, -1, 1, 2, 1, 7, 0, 8, 9);
        }
        Edge.fault("s1,1r5", 5);
        Edge.fault("s1,1R", 4);
        Edge.fault("s1,1T5", 4);
        Edge.fault("S1,1", 0);
        Edge.fault("rs1,1", 0);
        Edge.fault("sr1,1", 1);
        Edge.fault("s1r,1", 2);
        Edge.fault("s1,1,1r", 6);
        Edge.fault("s1,1to1,1", 5);
        Edge.fault("s1,1or", 5);

        Edge.of(TERMS, "a letter that was there; ");
        Edge.fault("s1,1t5t5", 6);
        Edge.fault("s1,1t5 t", 7);
        Edge.fault("s1,1t5rt6", 7);
        Edge.fault("s1,1o1,2o", 8);
        Edge.fault("s1,1o1,2t5o3,4", 10);
        Edge.fault("s1,1t5;s1,1t6;s1,1o1,1;s1,1o2,2", NONE);

        Edge.of(TERMS, "a second one of r, d, l; ");
        for (char one : "rdl".toCharArray()) {
            for (char two : "rdl".toCharArray()) {
                Edge.fault("s1,1" + one + two, 5);
                Edge.fault("s1,1" + one + "t5o1,1" + two, 11);
                Edge.fault("s1,1" + one + ";s1,1" + two, NONE);
            }
        }

        Edge.of(TERMS, "t and TONE 0 .. 100 (50 without), ");
        Edge.due(Check.told("s1,1"), "ink(0, 6)", 50);
        Edge.due(Check.told("s1,1t7;s1,1"), "ink(1, 6)", 50);
        Edge.due(Check.told("s1,1t0"), "ink(0, 6)", 0);
        Edge.due(Check.told("s1,1t1"), "ink(0, 6)", 1);
        Edge.due(Check.told("s1,1t99"), "ink(0, 6)", 99);
        Edge.due(Check.told("s1,1t100"), "ink(0, 6)", 100);
        Edge.fault("s1,1t101", 7);
        Edge.fault("s1,1t110", 7);
        Edge.fault("s1,1t200", 7);
        Edge.fault("s1,1t999", 7);
        Edge.fault("s1,1t", 5);

        Edge.of(TERMS, "o and X , Y (OFFSET -99 .. 99; 0, 0 without).");
        Edge.dueRow(Check.told("s1,1"), "ink(0, #)", 1, 1, -1, 1, 2, 0, 50, 1, 0, 0);
        Edge.due(Check.told("s1,1o7,8;s1,1"), "ink(1, 8)", 0);
        Edge.due(Check.told("s1,1o7,8;s1,1"), "ink(1, 9)", 0);
        Edge.due(Check.told("s1,1o-99,99"), "ink(0, 8)", -99);
        Edge.due(Check.told("s1,1o-99,99"), "ink(0, 9)", 99);
        Edge.due(Check.told("s1,1o99,-99"), "ink(0, 8)", 99);
        Edge.due(Check.told("s1,1o99,-99"), "ink(0, 9)", -99);
        Edge.fault("s1,1o100,0", 7);
        Edge.fault("s1,1o-100,0", 8);
        Edge.fault("s1,1o0,100", 9);
        Edge.fault("s1,1o0,-100", 10);
        Edge.fault("s1,1o", 5);
        Edge.fault("s1,1o5", 6);
        Edge.fault("s1,1o5,", 7);
        Edge.fault("s1,1o5;", 6);
        Edge.fault("s1,1o5,6,7", 8);
    }

    private static void numbers() {
        Edge.of(TERMS, "Numbers: - or none, then one or two digits (of TONE one to three, no -). ");
        Edge.dueRow(Check.told("s-0,-01,01,-00"), "ink(0, #)", 0, -1, 1, 0, 1);
        Edge.dueRow(Check.told("s00,09,-9,00t000"), "ink(0, #)", 0, 9, -9, 0, 81, 0, 0);
        Edge.due(Check.told("s1,1t00"), "ink(0, 6)", 0);
        Edge.due(Check.told("s1,1t007"), "ink(0, 6)", 7);
        Edge.due(Check.told("s1,1t07"), "ink(0, 6)", 7);
        Edge.due(Check.told("s1,1o-0,-07"), "ink(0, 8)", 0);
        Edge.due(Check.told("s1,1o-0,-07"), "ink(0, 9)", -7);
        Edge.fault("s--1,1", 2);
        Edge.fault("s+1,1", 1);
        Edge.fault("s1-,1", 2);
        Edge.fault("s1,1-", 4);
        Edge.fault("s-,1", 2);
        Edge.fault("s,1", 1);
        Edge.fault("s1,,1", 3);
        Edge.fault("s1.5,1", 2);
        Edge.fault("s1,1t-1", 5);
        Edge.fault("s1,1t-", 5);
        Edge.fault("s1,1t+1", 5);

        Edge.of(TERMS, "a number out of bounds is wrong at its last digit, ");
        Edge.fault("s13", 2);
        Edge.fault("s13,1", 2);
        Edge.fault("s13 ,1", 2);
        Edge.fault("s13?", 2);
        Edge.fault("s 20", 3);
        Edge.fault("s-13,1", 3);
        Edge.fault("s99,1", 2);
        Edge.fault("s1,13", 4);
        Edge.fault("s1,-99;", 5);
        Edge.fault("s1,1,13,1", 6);
        Edge.fault("s1,1,1,13", 8);
        Edge.fault("s1,1t101", 7);
        Edge.fault("s1,1t101r", 7);
        Edge.fault("s1,1t101 ", 7);

        Edge.of(TERMS, "a digit too many itself, whatever stands ahead of it; ");
        Edge.fault("s120,1", 3);
        Edge.fault("s001,1", 3);
        Edge.fault("s-012,1", 4);
        Edge.fault("s130", 3);
        Edge.fault("s130,1", 3);
        Edge.fault("s-999,1", 4);
        Edge.fault("s1,130", 5);
        Edge.fault("s1,012", 5);
        Edge.fault("s1,1,012,1", 7);
        Edge.fault("s1,1,1,-000", 10);
        Edge.fault("s1300,1", 3);
        Edge.fault("s1,1,130,1", 7);
        Edge.fault("s1,1,1,-990", 10);
        Edge.fault("s1,1t1000", 8);
        Edge.fault("s1,1t0000", 8);
        Edge.fault("s1,1t1010", 8);
        Edge.fault("s1,1t9999", 8);
        Edge.fault("s1,1o100", 7);
        Edge.fault("s1,1o000,1", 7);
        Edge.fault("s1,1o1,-990", 10);
        Edge.fault("s1,1o1,012", 9);
    }

    private static void blanks() {
        Edge.of(TERMS, "Blanks (32) may stand between all signs, not within a number or behind a -. ");
        String whole = "s-1,12,-3,4lt100o-99,-8;s1,1";
        Edge.fault(whole, NONE);
        for (int at = 0; at <= whole.length(); at++) {
            String ahead = whole.substring(0, at);
            String behind = whole.substring(at);
            int want = NONE;
            if (ahead.endsWith("-")) {
                want = at;
            } else if (ahead.matches(".*\\d") && behind.matches("\\d.*")) {
                // a blank may end the number; the digit behind it is wrong
                want = at + 1;
            }
            Edge.fault(ahead + " " + behind, want);
            Edge.fault(ahead + "   " + behind, want == at + 1 ? at + 3 : want);
            for (int sign : new int[] {9, 10, 13, 31, 33, 95, 160, 255}) {
                Edge.fault(ahead + (char) sign + behind, at);
            }
        }
        DotScreens x = Check.told(" s -1 , 12 , -3 , 4 l t 100 o -99 , -8 ; s 1 , 1 ");
        Edge.dueRow(x, "ink(0, #)", -1, 12, -3, 4, 32, 2, 100, 32, -99, -8);
        Edge.dueRow(x, "ink(1, #)", 1, 1, -1, 1, 2, 0, 50, 1, 0, 0);
    }

    private static void leftOut() {
        Edge.of(TERMS, "A CLAUSE whose CELL is 0 or above 144 is left out whole.");
        for (String out : new String[] {"s0,0", "s1,2,2,4", "s0,0,12,12", "s12,12,12,12", "s12,1", "s1,-12", "s12,1,1,-12",
            "s12,12,-12,12", "s12,12,12,-12", "s12,1,-12,12"}) {
            Edge.fault(out, NONE);
            DotScreens alone = Check.told("s2,1;s2,1");
            Check.feed(alone, out);
            Edge.due(alone, "text()", 0);
            Edge.dueRow(alone, "count(#)", 0, 0);
            DotScreens x = Check.told("s2,1t7;" + out + "lt8o9,9;s3,0d;s1,1");
            Edge.due(x, "count(0)", 3);
            Edge.dueRow(x, "ink(0, #)", 2, 1, -1, 2, 5, 0, 7, 0, 0, 0);
            Edge.dueRow(x, "ink(1, #)", 3, 0, 0, 3, 9, 1, 50, 5, 0, 0);
            Edge.dueRow(x, "ink(2, #)", 1, 1, -1, 1, 2, 0, 50, 1, 0, 0);
            Edge.due(x, "ink(3, 0)", Ask.THROWS);
        }
        for (String in : new String[] {"s12,0", "s0,-12", "s12,0,0,-12", "s11,1,-12,12", "s1,0", "s0,1,1,0", "s1,1,1,0"}) {
            Edge.due(Check.told(in), "count(0)", 1);
        }
        Edge.due(Check.told("s0,0;s0,0;s0,0;s0,0"), "count(0)", 0);
        Edge.due(Check.told("s0,0;s0,0;s0,0;s2,1"), "ink(0, 4)", 5);
    }

    private static void texts() {
        Edge.of(5, "The TAPE (empty then) tells all INKS (those ahead are gone): ");
        DotScreens x = Edge.inksAndTape("s1,0;s2,0;s3,0;s4,0", "s2,1lt7o8,9").get();
        Edge.due(x, "text()", 1);
        Edge.dueRow(x, "count(#)", 1, 0);
        Edge.due(x, "fault()", NONE);
        Edge.dueRow(x, "ink(0, #)", 2, 1, -1, 2, 5, 2, 7, 0, 8, 9);
        Edge.due(x, "ink(1, 0)", Ask.THROWS);
        Edge.due(x, "text()", 0);
        Edge.dueRow(x, "count(#)", 0, 0);
        Edge.due(x, "ink(0, 0)", Ask.THROWS);

        Edge.of(5, "how many there are. ");
        Edge.due(new DotScreens(), "text()", 0);
        Edge.due(Edge.tape("  ").get(), "text()", 0);
        Edge.due(Edge.tape("s1,1").get(), "text()", 1);
        Edge.due(Edge.tape("s1,1;s1,1;s1,1;s1,1").get(), "text()", 4);
        Edge.due(Edge.tape("s1,1;s0,0;s1,1;s12,12").get(), "text()", 2);

        Edge.of(5, "NONE: a FAULT (the TAPE and all stays).");
        for (String wrong : new String[] {"x", "s", "s1,1;", "s3,3;x", "s13,1", "s1,1rr", "s1,1;s1,1;s1,1;s1,1;s1,1"}) {
            Edge.refused(Edge.tape(wrong), "text()", NONE);
            Edge.refused(Edge.inksAndTape("s2,1lt30o4,5;s3,0", wrong), "text()", NONE);
        }
        DotScreens y = Edge.inksAndTape("s2,1lt30", "s3,3;x").get();
        Edge.due(y, "text()", NONE);
        Edge.dueRow(y, "count(#)", 1, 6);
        Edge.dueRow(y, "ink(0, #)", 2, 1, -1, 2, 5, 2, 30);
        Edge.due(y, "end(4)", 1);
        Edge.due(y, "text()", 1);
        Edge.dueRow(y, "ink(0, #)", 3, 3, -3, 3, 18, 0, 50);
    }

    private static void inkAnswers() {
        Edge.of(6, "Of an INK: 0 to 3 A, B, C, D, 4 CELL, 5 SPOT (0 ROUND, 1 DIAMOND, 2 LINE), 6 TONE, 7 LEVEL, 8, 9 OFFSET.");
        DotScreens x = Check.told("s3,-2,-1,4lt30o-5,6;s1,0r;s1,0d");
        Edge.dueRow(x, "ink(0, #)", 3, -2, -1, 4, 10, 2, 30, 3, -5, 6);
        Edge.due(x, "ink(1, 5)", 0);
        Edge.due(x, "ink(2, 5)", 1);

        Edge.of(6, "NoSuchElementException: no such ones.");
        Supplier<DotScreens> two = Edge.inks("s1,1;s1,1");
        for (String call : new String[] {"ink(2, 0)", "ink(3, 0)", "ink(4, 0)", "ink(-1, 0)", "ink(0, -1)", "ink(0, 10)",
            "ink(1, 10)"}) {
            Edge.refused(two, call, Ask.THROWS);
        }
        for (int n : EXTREMES) {
            Edge.refused(two, "ink(" + n + ", 0)", Ask.THROWS);
            Edge.refused(two, "ink(0, " + n + ")", Ask.THROWS);
        }
        Edge.refused(DotScreens::new, "ink(0, 0)", Ask.THROWS);
        Edge.refused(Edge.inks("s1,0;s1,0;s1,0;s1,0"), "ink(4, 0)", Ask.THROWS);

        Edge.of(TERMS, "LEVEL: CELL times TONE and 50, added, by 100, cut.");
        String[] cells = {"s1,0", "s1,0", "s1,0", "s1,0", "s1,1", "s1,1", "s1,1", "s1,1", "s2,1", "s2,1", "s12,0", "s12,0",
            "s12,0", "s12,0"};
        int[] tones = {0, 49, 50, 100, 24, 25, 74, 75, 9, 10, 0, 1, 99, 100};
        int[] levels = {0, 0, 1, 1, 0, 1, 1, 2, 0, 1, 0, 1, 143, 144};
        for (int i = 0; i < cells.length; i++) {
            Edge.due(Check.told(cells[i] + "t" + tones[i]), "ink(0, 7)", levels[i]);
        }
    }

    private static void counts() {
        Edge.of(36, "0 INKS, 1 bytes of the TAPE.");
        DotScreens x = Edge.inksAndTape("s1,1;s1,1;s1,1;s1,1", "s1").get();
        Edge.dueRow(x, "count(#)", 4, 2);
        Edge.due(x, "drop(0)", 3);
        Edge.dueRow(x, "count(#)", 3, 2);
        Edge.due(x, "end(1)", 1);
        Edge.dueRow(x, "count(#)", 3, 1);
        Edge.dueRow(filled(160).get(), "count(#)", 0, 160);

        Edge.of(36, "HIDDEN for others.");
        for (int what : new int[] {-1, 2, 3, Integer.MIN_VALUE, Integer.MAX_VALUE}) {
            Edge.refused(Edge.inks("s2,1"), "count(" + what + ")", HIDDEN);
        }
        Edge.refused(DotScreens::new, "count(2)", HIDDEN);
    }

    private static void constants() {
        Edge.of(TERMS, "The constants: `NONE = -1`: None; refused.");
        Edge.due("NONE", DotScreens.NONE, -1);
        Edge.of(TERMS, "`HIDDEN = -1000000`: Not told.");
        Edge.due("HIDDEN", DotScreens.HIDDEN, -1000000);
    }
}
