/**
 * Every sentence of the document's first section, of the texts' FAULTS and of promises 1 to 10 that names a boundary
 * case: told word for word, then held to on both sides of the boundary.
 */
public final class EdgeTextsTest {
    private static final int NONE = Check.NONE, UNKNOWN = Check.UNKNOWN, OUTSIDE = Check.OUTSIDE, NOT = Check.NOT, FULL = Check.FULL;
    private static final String ALL = "bough 500;rope 400 200 20;start 30 50;trunk 300;need 100;water 10,20;stones 3,5;sand 7;months 4,60;";
    private static final String DEPTHS_24 = "0,1,2,3,4,5,6,7,8,9,10,11,12,13,14,15,16,17,18,19,20,21,22,23";

    public static void main(String[] args) {
        theNewObject();
        fromNoneOn();
        theWholeText();
        eachClauseOnce();
        bough();
        rope();
        start();
        trunk();
        need();
        water();
        stones();
        sand();
        months();
        swingersAreTold();
        swingerNumbers();
        oneToThreeFigures();
        letters();
        blanks();
        sideBySide();
        theFirstByte();
        theLeastOfThese();
        itCannotStand();
        fourFiguresOrOutside();
        toldAlready();
        tooMany();
        anEmptyText();
        inHand();
        knotIsHeld();
        strength();
        feed();
        feedRefused();
        place();
        placeBegins();
        placeAnswers();
        swinger();
        swingerRefused();
        fault();
        told();
        cell();
        who();
        set();
        now();
        Check.end("EdgeTextsTest");
    }

    private static String repeat(String s, int n) {
        return s.repeat(n);
    }

    private static String told(RopeSwing x) {
        StringBuilder b = new StringBuilder();
        for (int k = 0; k <= 8; k++) {
            b.append(x.told(k)).append(' ');
        }
        return b.toString().trim();
    }

    private static void toldAre(String words, String due) {
        RopeSwing x = Check.of(words);
        Check.holds("'" + words + "' tells " + told(x) + ", due is " + due, told(x).equals(due));
        Check.due("'" + words + "' fault()", x.fault(), NONE);
    }

    /** The least and the most of a NUMBER that told() tells, and one below, one beyond. */
    private static void bounds(String head, String tail, int what, int least, int most) {
        for (int v : new int[] {least, most}) {
            RopeSwing x = new RopeSwing();
            Check.due("place of '" + head + v + tail + "'", Check.place(x, head + v + tail), 1);
            Check.due("told(" + what + ") of '" + head + v + tail + "'", x.told(what), v);
        }
        if (least > 0) {
            Check.placeFault(head + (least - 1) + tail, 2, head.length());
        }
        Check.placeFault(head + (most + 1) + tail, 2, head.length());
    }

    // ---- what a new object is

    private static void theNewObject() {
        Check.says("THE PLACE as untold; no SWINGERS; MONTH, KNOT, YEARS 0.");
        toldAre("", "660 450 300 10 40 100 400 150 16");
        RopeSwing x = new RopeSwing();
        Check.due("SWINGERS", x.told(9), 0);
        Check.due("nobody", x.who(0, 0), UNKNOWN);
        for (int k = 0; k <= 2; k++) {
            Check.due("now(" + k + ")", x.now(k), 0);
        }
        Check.due("THE TEXT", x.told(10), 0);
        Check.due("no fault", x.fault(), NONE);
    }

    private static void fromNoneOn() {
        Check.says("What has a number has it from 0 on, as it comes.");
        RopeSwing x = Check.of("water 7,8;months 3,4;stones 0;");
        Check.due("the first SWINGER", Check.swinger(x, "10 50 10 0 0"), 0);
        Check.due("a faulty one has none", Check.swinger(x, "11 50 10 0"), -11);
        Check.due("the second SWINGER", Check.swinger(x, "12 50 10 0 0"), 1);
        Check.due("W of 1", x.who(1, 0), 12);
        Check.due("the first CELL", x.cell(0, 0), 7);
        Check.due("the second CELL", x.cell(1, 0), 8);
        Check.due("stones in the first", x.cell(0, 2), 1);
        Check.due("the first MONTH", x.now(7), 3);
        x.set(0, 1);
        Check.due("the second MONTH", x.now(7), 4);
        Check.due("the first IMAGE", x.keep(0), 1);
    }

    // ---- 1 THE PLACE

    private static void theWholeText() {
        Check.says("THE PLACE is told in a text (300 bytes at most)");
        RopeSwing x = new RopeSwing();
        Check.due("300 bytes, the last is the clause's end", Check.place(x, "need 7" + repeat(" ", 293) + ";"), 1);
        Check.due("N", x.told(7), 7);
        Check.placeFault("need 7" + repeat(" ", 294), 1, 300);
        Check.placeFault("need 7;" + repeat(" ", 292) + "x", 1, 299);
    }

    private static void eachClauseOnce() {
        Check.says("clauses, each once");
        toldAre(ALL, "500 400 200 20 30 50 300 100 7");
        Check.placeSound(ALL, 9);
        for (String clause : ALL.split(";")) {
            Check.placeSound(clause + ";", 1);
            Check.placeFault(clause + ";" + clause + ";", 3, clause.length() + 1);
            // all the others may stand between
            Check.placeFault(ALL + clause + ";", 3, ALL.length());
        }
    }

    private static void bough() {
        Check.says("'bough' B ';' (height 200 .. 999; 660 untold)");
        bounds("bough ", ";", 0, 200, 999);
        Check.due("untold", Check.of("need 1;").told(0), 660);
    }

    private static void rope() {
        Check.says("'rope' L S Y ';' (length 100 .. 900, strength 20 .. 999, loss in a year 0 .. 99 of a hundred; 450 300 10)");
        bounds("rope ", " 20 0;", 1, 100, 900);
        bounds("rope 100 ", " 0;", 2, 20, 999);
        bounds("rope 100 20 ", ";", 3, 0, 99);
        toldAre("need 150;", "660 450 300 10 40 100 400 150 16");
        Check.placeFault("rope 100 20;", 1, 11);
        Check.placeFault("rope 100 20 0 0;", 1, 14);
    }

    private static void start() {
        Check.says("'start' A V ';' (A 0 .. 80 degrees back, a run of V 0 .. 600 in a second; 40 100)");
        bounds("start ", " 0;", 4, 0, 80);
        bounds("start 0 ", ";", 5, 0, 600);
        Check.due("A untold", Check.of("need 1;").told(4), 40);
        Check.due("V untold", Check.of("need 1;").told(5), 100);
        Check.placeFault("start 40;", 1, 8);
        Check.placeFault("start 40 100 1;", 1, 13);
    }

    private static void trunk() {
        Check.says("'trunk' T ';' (50 .. 600; 400)");
        bounds("trunk ", ";", 6, 50, 600);
        Check.due("untold", Check.of("need 1;").told(6), 400);
    }

    private static void need() {
        Check.says("'need' N ';' (depth 0 .. 300; 150)");
        bounds("need ", ";", 7, 0, 300);
        Check.due("untold", Check.of("trunk 50;").told(7), 150);
    }

    private static void water() {
        Check.says("'water' D {',' D} ';' (depths 0 .. 600 of CELLS from 0 on, 24 at most; 200 untold, each)");
        RopeSwing x = Check.of("water 0,600;");
        int[] due = {0, 600, 200};
        for (int c = 0; c < 24; c++) {
            Check.due("two told: D of " + c, x.cell(c, 0), due[Math.min(c, 2)]);
        }
        Check.placeFault("water 601;", 2, 6);
        Check.placeFault("water 0,601;", 2, 8);
        x = Check.of("water " + DEPTHS_24 + ";");
        for (int c = 0; c < 24; c++) {
            Check.due("24 told: D of " + c, x.cell(c, 0), c);
        }
        Check.placeFault("water " + DEPTHS_24 + ",24;", 4, 7 + DEPTHS_24.length());
        Check.placeFault("water;", 1, 5);
        Check.placeFault("water 1,;", 1, 8);
    }

    private static void stones() {
        Check.says("'stones' C {',' C} ';'");
        Check.says("C of 'stones' 0 .. 23.");
        RopeSwing x = Check.of("sand 24;stones 0,23;");
        for (int c = 0; c < 24; c++) {
            Check.due("the first and the last: " + c, x.cell(c, 2), c == 0 || c == 23 ? 1 : 0);
        }
        Check.placeFault("stones 24;", 2, 7);
        Check.placeFault("stones 0,24;", 2, 9);
        x = Check.of("sand 24;stones " + DEPTHS_24 + ";");
        for (int c = 0; c < 24; c++) {
            Check.due("all of them: " + c, x.cell(c, 2), 1);
        }
        Check.placeFault("stones;", 1, 6);
        Check.placeFault("stones 1,;", 1, 9);
        for (int c = 0; c < 16; c++) {
            Check.due("none untold: " + c, new RopeSwing().cell(c, 2), 0);
        }
    }

    private static void sand() {
        Check.says("'sand' C ';' (CELLS from C on are sand, 1 .. 24; 16 untold)");
        bounds("sand ", ";", 8, 1, 24);
        for (int from : new int[] {1, 12, 16, 23, 24}) {
            RopeSwing x = Check.of("sand " + from + ";");
            for (int c = 0; c < 24; c++) {
                Check.due("sand " + from + ": " + c, x.cell(c, 2), c >= from ? 2 : 0);
            }
        }
        RopeSwing x = new RopeSwing();
        Check.due("untold: the last of the water", x.cell(15, 2), 0);
        Check.due("untold: the first of the sand", x.cell(16, 2), 2);
    }

    private static void months() {
        Check.says("'months' F {',' F} ';' (how much lower the water is in months 0 and on, 0 .. 300, 12 at most; 0 untold, each)");
        lowerAre("months 0,300;", 0, 300, 0, 0, 0, 0, 0, 0, 0, 0, 0, 0);
        lowerAre("months 1,2,3,4,5,6,7,8,9,10,11,12;", 1, 2, 3, 4, 5, 6, 7, 8, 9, 10, 11, 12);
        lowerAre("need 1;", 0, 0, 0, 0, 0, 0, 0, 0, 0, 0, 0, 0);
        Check.placeFault("months 301;", 2, 7);
        Check.placeFault("months 0,0,0,0,0,0,0,0,0,0,0,301;", 2, 29);
        Check.placeFault("months 0,0,0,0,0,0,0,0,0,0,0,0,0;", 4, 31);
        Check.placeFault("months;", 1, 6);
        Check.placeFault("months 1,;", 1, 9);
    }

    private static void lowerAre(String words, int... due) {
        RopeSwing x = Check.of(words);
        for (int m = 0; m < 12; m++) {
            x.set(0, m);
            Check.due("'" + words + "' lower in MONTH " + m, x.now(7), due[m]);
        }
    }

    // ---- SWINGERS

    private static void swingersAreTold() {
        Check.says("SWINGERS (8 at most) are told in texts (40 bytes at most), each its own");
        RopeSwing x = new RopeSwing();
        for (int s = 0; s < 8; s++) {
            String words = (10 + s) + " 50 10 0 " + s;
            Check.due("swinger " + s, Check.swinger(x, words + repeat(" ", 40 - words.length())), s);
        }
        Check.due("a ninth", Check.swinger(x, "10 50 10 0 0"), FULL);
        Check.due("eight there are", x.told(9), 8);
        for (int s = 0; s < 8; s++) {
            Check.due("W of " + s, x.who(s, 0), 10 + s);
            Check.due("T of " + s, x.who(s, 4), s);
        }
        x = new RopeSwing();
        Check.due("41 bytes", Check.swinger(x, "10 50 10 0 0" + repeat(" ", 29)), NOT);
        Check.due("nobody came", x.told(9), 0);
        Check.due("blanks at both ends of 40", Check.swinger(new RopeSwing(), repeat(" ", 14) + "10 50 10 0 0" + repeat(" ", 14)), 0);
        Check.due("40 bytes, the last a figure", Check.swinger(new RopeSwing(), repeat(" ", 28) + "10 50 10 0 0"), 0);
    }

    private static void swingerNumbers() {
        Check.says("W R G Q T (weight 10 .. 150, feet below the hands 50 .. 220, grip 10 .. 300, lag 0 .. 20 TICKS, turning 0 .. 36 degrees a TICK)");
        int[] least = {10, 50, 10, 0, 0};
        int[] most = {150, 220, 300, 20, 36};
        for (int k = 0; k < 5; k++) {
            swingerIs(least, k, least[k]);
            swingerIs(least, k, most[k]);
            if (least[k] > 0) {
                swingerNot(least, k, least[k] - 1);
            }
            swingerNot(least, k, most[k] + 1);
        }
        Check.swingerFault("10 50 10 0", 1, 10);
        Check.swingerFault("10 50 10 0 0 0", 1, 13);
    }

    private static String swingerText(int[] numbers, int k, int v) {
        StringBuilder b = new StringBuilder();
        for (int i = 0; i < 5; i++) {
            b.append(i == 0 ? "" : " ").append(i == k ? v : numbers[i]);
        }
        return b.toString();
    }

    private static void swingerIs(int[] numbers, int k, int v) {
        RopeSwing x = new RopeSwing();
        String words = swingerText(numbers, k, v);
        Check.due("swinger of '" + words + "'", Check.swinger(x, words), 0);
        Check.due("who(0, " + k + ") of '" + words + "'", x.who(0, k), v);
    }

    private static void swingerNot(int[] numbers, int k, int v) {
        int at = 0;
        for (int i = 0; i < k; i++) {
            at += (numbers[i] + " ").length();
        }
        Check.swingerFault(swingerText(numbers, k, v), 2, at);
    }

    // ---- NUMBERS, words, blanks

    private static void oneToThreeFigures() {
        Check.says("NUMBERS have one to three figures");
        Check.due("one", Check.of("need 7;").told(7), 7);
        Check.due("two", Check.of("need 07;").told(7), 7);
        Check.due("three", Check.of("need 007;").told(7), 7);
        Check.placeFault("need 0007;", 2, 5);
        Check.placeFault("need 00000000000000000000000000007;", 2, 5);
        Check.due("000", Check.of("need 000;").told(7), 0);
        Check.due("three in a SWINGER", Check.swinger(new RopeSwing(), "010 050 010 000 000"), 0);
        Check.swingerFault("10 50 10 0 0000", 2, 11);
        // figures are 0 .. 9 alone: the bytes beside them are none
        Check.placeFault("need 1/;", 1, 6);
        Check.placeFault("need 1:;", 1, 6);
        Check.due("all figures", Check.of("bough 456;rope 789 123 90;").told(1), 789);
    }

    private static void letters() {
        Check.says("words are letters a .. z side by side");
        // the bytes beside a .. z end a word, they are no part of it
        for (char c : new char[] {'`', '{', '@', '[', 'A', 'Z', (char) 0, (char) 255}) {
            Check.placeFault("need" + c + "5;", 1, 4);
            Check.placeFault("nee" + c + "d 5;", 1, 0);
        }
        for (char c : new char[] {'a', 'z', 'm'}) {
            Check.placeFault("need" + c + " 5;", 1, 0);
            Check.placeFault(c + "need 5;", 1, 0);
        }
        Check.placeFault("nee d 5;", 1, 0);
        Check.placeFault("nee", 1, 0);
        Check.placeFault("NEED 5;", 1, 0);
    }

    private static void blanks() {
        Check.says("blanks (32) may stand anywhere but within words and NUMBERS");
        RopeSwing x = new RopeSwing();
        Check.due("between all", Check.place(x, "  water  1  ,  2  ;  rope  400  200  20  ;  "), 2);
        Check.due("D", x.cell(1, 0), 2);
        Check.due("L", x.told(1), 400);
        Check.due("none of them", Check.place(x, "water1,2;need5;sand9;"), 3);
        Check.due("N", x.told(7), 5);
        Check.placeFault("ne ed 5;", 1, 0);
        Check.placeFault("rope 400 20 0 20;", 1, 14);
        Check.placeFault("trunk 30 0;", 2, 6);
        Check.placeFault("need 30 0;", 1, 8);
        // no other byte is one
        for (char c : new char[] {'\t', '\n', '\r', 31, 33, 0, 127, 128, 160, 255}) {
            Check.placeFault("need" + c + "5;", 1, 4);
            Check.placeFault(c + "need 5;", 1, 0);
            Check.placeFault("need 5;" + c, 1, 7);
            Check.swingerFault("10" + c + "50 10 0 0", 1, 2);
        }
    }

    private static void sideBySide() {
        Check.says("two words, two NUMBERS side by side need one");
        Check.placeSound("start 40 100;", 1);
        Check.placeFault("start 40100;", 2, 6);
        // without it they are one NUMBER: 410
        Check.placeFault("start 4 10", 1, 10);
        Check.placeFault("start 410;", 2, 6);
        Check.placeFault("start 010;", 1, 9);
        Check.placeFault("boughrope 500;", 1, 0);
        Check.placeFault("bough rope 500;", 1, 6);
        // a word and a NUMBER need none
        Check.placeSound("start40 100;", 1);
        Check.placeFault("bough500rope 400 200 20;", 1, 8);
    }

    // ---- FAULTS

    private static void theFirstByte() {
        Check.says("FAULTS, at the first byte that has one (the end at the text's length)");
        Check.placeFault("need 999;need 5;x", 2, 5);
        Check.placeFault("need 5;need 999;x", 3, 7);
        Check.placeFault("need 5;x;need 999;", 1, 7);
        Check.placeFault("months 0,0,0,0,0,0,0,0,0,0,0,0,0,999;x", 4, 31);
        Check.swingerFault("9 9 9 99 99", 2, 0);
        Check.swingerFault("10 9 x 99 99", 2, 3);
        Check.swingerFault("10 50 x 99 99", 1, 6);
        // the end
        Check.placeFault("need", 1, 4);
        Check.placeFault("need   ", 1, 7);
        Check.placeFault("need 5", 1, 6);
        Check.placeFault("need 5  ", 1, 8);
        Check.placeFault("water 5,", 1, 8);
        Check.swingerFault("", 1, 0);
        Check.swingerFault(" ", 1, 1);
        Check.swingerFault(repeat(" ", 40), 1, 40);
        Check.swingerFault("10 50 10 0 ", 1, 11);
    }

    private static void theLeastOfThese() {
        Check.says("of these the least");
        // 1 and 2: a NUMBER of four figures, or beyond all bounds, where none can stand
        Check.placeFault("9999;", 1, 0);
        Check.placeFault("need 5 9999;", 1, 7);
        Check.swingerFault("10 50 10 0 0 9999", 1, 13);
        // 1 and 3: a clause's word again, where no word can stand
        Check.placeFault("need need 5;", 1, 5);
        Check.placeFault("need 5;sand need;", 1, 12);
        // 2 and 3: a CELL again, of four figures
        Check.placeFault("stones 5,0005;", 2, 9);
        // 2 and 4: a NUMBER too many, out of its bounds or of four figures
        Check.placeFault("months 0,0,0,0,0,0,0,0,0,0,0,0,301;", 2, 31);
        Check.placeFault("months 0,0,0,0,0,0,0,0,0,0,0,0,0000;", 2, 31);
        Check.placeFault("water " + DEPTHS_24 + ",601;", 2, 7 + DEPTHS_24.length());
        // 3 and 4: a CELL again that is too many, too; 2 if it is none
        Check.placeFault("stones " + DEPTHS_24 + ",23;", 3, 8 + DEPTHS_24.length());
        Check.placeFault("stones " + DEPTHS_24 + ",24;", 2, 8 + DEPTHS_24.length());
    }

    private static void itCannotStand() {
        Check.says("1 it cannot stand there (a word that cannot: at its first letter).");
        Check.placeFault("  rough 5;", 1, 2);
        Check.placeFault("needs 5;", 1, 0);
        Check.placeFault("need five;", 1, 5);
        Check.placeFault("need 5 five;", 1, 7);
        Check.placeFault("need 5five;", 1, 6);
        Check.placeFault("water 1,two;", 1, 8);
        Check.placeFault("water 1 two;", 1, 8);
        Check.placeFault("need 5;;", 1, 7);
        Check.placeFault(";", 1, 0);
        Check.placeFault("need -5;", 1, 5);
        Check.placeFault("need 5,6;", 1, 6);
        Check.placeFault("water ,1;", 1, 6);
        Check.placeFault("water 1,,2;", 1, 8);
        Check.placeFault("water 1 2;", 1, 8);
        Check.placeFault("5;", 1, 0);
        Check.swingerFault("10 50 10 0 turn", 1, 11);
        Check.swingerFault("10 50 10 0 0 turn", 1, 13);
        Check.swingerFault("10,50 10 0 0", 1, 2);
        Check.swingerFault("10 50 10 0 0;", 1, 12);
        Check.swingerFault("-10 50 10 0 0", 1, 0);
    }

    private static void fourFiguresOrOutside() {
        Check.says("2 a NUMBER of four figures or more, or out of its bounds (at its first).");
        Check.placeFault("need   0100;", 2, 7);
        Check.placeFault("need 100000000000000000100;", 2, 5);
        Check.placeFault("need 4294967396;", 2, 5);
        Check.placeFault("need   301;", 2, 7);
        Check.placeFault("need 301x", 2, 5);
        Check.placeFault("need 0100x", 2, 5);
        Check.placeFault("need 301", 2, 5);
        Check.placeFault("trunk 49;", 2, 6);
        Check.swingerFault("10 50 10 0   37", 2, 13);
        Check.swingerFault("10 50 10   0020 0", 2, 11);
    }

    private static void toldAlready() {
        Check.says("3 a clause that was told already (at its first letter), a CELL of 'stones' again (at it).");
        Check.placeFault("need 5;  need 5;", 3, 9);
        Check.placeFault("need 5;need", 3, 7);
        Check.placeFault("need 5;need!", 3, 7);
        Check.placeFault("need 5;sand 9;need 5;", 3, 14);
        Check.placeFault("stones 5,  05;", 3, 11);
        Check.placeFault("stones 0,1,0;", 3, 11);
        Check.placeFault("stones 23,023", 3, 10);
        Check.placeSound("water 5,5;months 5,5;stones 5;sand 5;", 4);
        // it is the text's own clauses that count, not those of the text before
        RopeSwing x = Check.of("need 5;stones 5;");
        Check.due("told again in the next text", Check.place(x, "need 6;stones 5;"), 2);
    }

    private static void tooMany() {
        Check.says("4 a NUMBER too many in its list (at its first).");
        Check.placeFault("water " + DEPTHS_24 + ",  24;", 4, 9 + DEPTHS_24.length());
        Check.placeFault("water " + DEPTHS_24 + ",0", 4, 7 + DEPTHS_24.length());
        Check.placeFault("months 0,0,0,0,0,0,0,0,0,0,0,0,  300;", 4, 33);
        Check.placeFault("months 0,0,0,0,0,0,0,0,0,0,0,0,;", 1, 31);
        Check.placeFault("months 0,0,0,0,0,0,0,0,0,0,0,0 0;", 1, 31);
        Check.placeSound("water " + DEPTHS_24 + ";months 0,0,0,0,0,0,0,0,0,0,0,0;", 2);
    }

    private static void anEmptyText() {
        Check.says("An empty text (or one of blanks alone) has no FAULT as THE PLACE: all is as untold.");
        for (String words : new String[] {"", " ", repeat(" ", 300)}) {
            RopeSwing x = Check.of(ALL);
            Check.due("'" + words + "' place", Check.place(x, words), 0);
            Check.due("'" + words + "' fault", x.fault(), NONE);
            Check.holds("'" + words + "' " + told(x), told(x).equals("660 450 300 10 40 100 400 150 16"));
            Check.due("'" + words + "' D", x.cell(0, 0), 200);
            Check.due("'" + words + "' stones", x.cell(3, 2), 0);
            Check.due("'" + words + "' lower", x.now(7), 0);
            x.set(0, 1);
            Check.due("'" + words + "' lower in MONTH 1", x.now(7), 0);
        }
    }

    // ---- IN HAND

    private static void inHand() {
        Check.says("IN HAND are: MONTH (0 .. 11), KNOT (0 .. 300, held to L less 50), YEARS of the rope (0 .. 40), A, V of the start as told in THE PLACE, till others are set.");
        RopeSwing x = Check.of("rope 900 300 10;start 7 8;");
        int[] first = {0, 0, 0, 7, 8};
        int[] most = {11, 300, 40, 80, 600};
        for (int k = 0; k < 5; k++) {
            Check.due("at first: now(" + k + ")", x.now(k), first[k]);
            Check.due("beyond: set(" + k + ")", x.set(k, most[k] + 1), OUTSIDE);
            Check.due("below: set(" + k + ")", x.set(k, -1), OUTSIDE);
            Check.due("as it was: now(" + k + ")", x.now(k), first[k]);
            Check.due("the most: set(" + k + ")", x.set(k, most[k]), first[k]);
            Check.due("the most: now(" + k + ")", x.now(k), most[k]);
            Check.due("the least: set(" + k + ")", x.set(k, 0), most[k]);
            Check.due("the least: now(" + k + ")", x.now(k), 0);
        }
        Check.due("A as told", x.told(4), 7);
        Check.due("V as told", x.told(5), 8);
    }

    private static void knotIsHeld() {
        Check.says("LENGTH is L less KNOT.");
        Check.says("OUTSIDE (KNOT more than L less 50, too).");
        int[][] most = {{100, 50}, {101, 51}, {349, 299}, {350, 300}, {351, 300}, {900, 300}};
        for (int[] m : most) {
            RopeSwing x = Check.of("rope " + m[0] + " 300 10;");
            Check.due("L " + m[0] + ": a KNOT too great", x.set(1, m[1] + 1), OUTSIDE);
            Check.due("L " + m[0] + ": LENGTH as it was", x.now(5), m[0]);
            Check.due("L " + m[0] + ": the greatest KNOT", x.set(1, m[1]), 0);
            Check.due("L " + m[0] + ": LENGTH", x.now(5), m[0] - m[1]);
        }
    }

    private static void strength() {
        Check.says("STRENGTH of the rope: S, each YEAR less that loss of it (cut).");
        // the loss is cut, so 19 of 99 less 1 of a hundred lose nothing
        strengthAre("rope 450 99 1;", 99, 99, 99);
        strengthAre("rope 450 100 1;", 100, 99, 99);
        strengthAre("rope 450 199 1;", 199, 198, 197, 196);
        strengthAre("rope 450 300 10;", 300, 270, 243, 219, 198, 179);
        strengthAre("rope 450 999 99;", 999, 10, 1, 1);
        strengthAre("rope 450 999 0;", 999, 999, 999);
        strengthAre("rope 450 20 50;", 20, 10, 5, 3, 2, 1, 1);
        RopeSwing x = Check.of("rope 450 999 1;");
        x.set(2, 40);
        int due = 999;
        for (int y = 0; y < 40; y++) {
            due -= due / 100;
        }
        Check.due("40 YEARS", x.now(6), due);
    }

    private static void strengthAre(String words, int... due) {
        RopeSwing x = Check.of(words);
        for (int y = 0; y < due.length; y++) {
            x.set(2, y);
            Check.due("'" + words + "' STRENGTH by " + y + " YEARS", x.now(6), due[y]);
        }
    }

    // ---- promises 2 to 10

    private static void feed() {
        Check.says("The lowest n bytes (1 .. 8) of a long, the highest of these first, come behind THE TEXT: how many it has.");
        RopeSwing x = new RopeSwing();
        Check.due("eight", x.feed(8, 0x6e65656420202031L), 8);
        Check.due("one, what is above it does not count", x.feed(1, 0x7878787878787835L), 9);
        Check.due("one, of a long below 0", x.feed(1, -256 + 0x3b), 10);
        Check.due("place", x.place(), 1);
        Check.due("N", x.told(7), 15);
        // bytes are 0 .. 255: eight of 255, eight of 0
        for (long bytes : new long[] {-1L, 0L, Long.MIN_VALUE, Long.MAX_VALUE}) {
            Check.due("feed " + bytes, x.feed(8, bytes), 8);
            Check.due("it cannot stand: " + bytes, x.place(), -11);
            Check.due("at the first: " + bytes, x.fault(), 0);
        }
        Check.due("0 bytes", x.feed(0, 0x20), OUTSIDE);
        Check.due("9 bytes", x.feed(9, 0x20), OUTSIDE);
        Check.due("THE TEXT is empty", x.told(10), 0);
        for (int n = 1; n <= 8; n++) {
            RopeSwing y = new RopeSwing();
            // the highest of the lowest n: "1", then blanks
            Check.due(n + " bytes", y.feed(n, 0x31L << 8 * (n - 1) | 0x20202020202020L & (1L << 8 * (n - 1)) - 1), n);
            Check.due("a swinger of '1' and blanks", y.swinger(), -12);
            Check.due("its fault", y.fault(), 0);
        }
    }

    private static void feedRefused() {
        Check.says("OUTSIDE, FULL (300).");
        RopeSwing x = new RopeSwing();
        Check.feed(x, repeat(" ", 293));
        Check.due("eight beyond", x.feed(8, 0x2020202020202020L), FULL);
        Check.due("none of them came", x.told(10), 293);
        Check.due("OUTSIDE ahead of FULL", x.feed(9, 0), OUTSIDE);
        Check.due("up to 300", x.feed(7, 0x20202020202020L), 300);
        Check.due("one beyond", x.feed(1, 0x20), FULL);
        Check.due("0 bytes into what is full", x.feed(0, 0x20), OUTSIDE);
        Check.due("it is as it was", x.told(10), 300);
        Check.due("300 blanks", x.place(), 0);
        Check.due("there is room again", x.feed(8, 0x2020202020202020L), 8);
    }

    private static void place() {
        Check.says("THE TEXT (it is empty then, with a FAULT, too) becomes THE PLACE");
        RopeSwing x = new RopeSwing();
        Check.place(x, "need 5;");
        Check.due("empty behind a place", x.told(10), 0);
        Check.place(x, "need");
        Check.due("empty behind a FAULT", x.told(10), 0);
        Check.due("so the next is empty", x.place(), 0);
        Check.due("N", x.told(7), 150);
    }

    private static void placeBegins() {
        Check.says("(MONTH, KNOT, YEARS 0; A, V as told; SWINGERS, IMAGES, ENDS that were counted, THE SEED stay)");
        RopeSwing x = Check.of("rope 500 300 10;", "50 150 100 2 3");
        int[] kept = {3, 200, 5, 6, 7};
        for (int k = 0; k < 5; k++) {
            x.set(k, kept[k]);
        }
        x.afternoon(5);
        x.keep(1);
        x.seed(99);
        for (String words : new String[] {"start 33 44;rope 500 300 10;", "", "rope 500 300 10;"}) {
            for (int k = 0; k < 5; k++) {
                x.set(k, 9);
            }
            Check.holds("'" + words + "'", Check.place(x, words) >= 0);
            int[] due = {0, 0, 0, words.startsWith("start") ? 33 : 40, words.startsWith("start") ? 44 : 100};
            int ends = 0;
            for (int k = 0; k < 5; k++) {
                Check.due("'" + words + "' now(" + k + ")", x.now(k), due[k]);
            }
            for (int e = 0; e <= 8; e++) {
                ends += x.ends(e);
            }
            Check.due("'" + words + "' ENDS", ends, 5);
            Check.due("'" + words + "' SEED", x.seed(99), 99);
            Check.due("'" + words + "' SWINGERS", x.told(9), 1);
            Check.due("'" + words + "' T", x.who(0, 4), 3);
        }
        Check.due("the IMAGE", x.goBack(1), 1);
        for (int k = 0; k < 5; k++) {
            Check.due("of the IMAGE: now(" + k + ")", x.now(k), kept[k]);
        }
    }

    private static void placeAnswers() {
        Check.says("how many clauses; -10 less the number of its FAULT (all else is as it was).");
        String[] clauses = ALL.split(";");
        StringBuilder words = new StringBuilder();
        for (int n = 0; n <= 9; n++) {
            Check.placeSound(words.toString(), n);
            words.append(n < 9 ? clauses[n] + ";" : "");
        }
        String[] faulty = {"bough 300;rope 200 99 9;start 9 9;trunk 99;water 9;stones 9;sand 9;months 9;x", "bough 300;need 301;", "stones 1;stones 2;",
            "months 0,0,0,0,0,0,0,0,0,0,0,0,0;"};
        for (int number = 1; number <= 4; number++) {
            RopeSwing x = placed();
            RopeSwing y = placed();
            Check.due("FAULT " + number, Check.place(x, faulty[number - 1]), -10 - number);
            // THE TEXT and fault() alone are new
            Check.due("its place", x.fault() == NONE ? 1 : 0, 0);
            Check.due("the same FAULT once more", Check.place(x, "x"), -11);
            Check.place(y, "x");
            Check.alike("behind FAULT " + number, x, y);
        }
    }

    private static RopeSwing placed() {
        RopeSwing x = Check.of(ALL, "50 150 100 2 3", "10 50 300 0 0");
        x.keep(0);
        for (int k = 0; k < 5; k++) {
            x.set(k, k + 1);
        }
        x.afternoon(3);
        return x;
    }

    private static void swinger() {
        Check.says("THE TEXT (it is empty then, with a FAULT, too) is a SWINGER: the number; -10 less the number of its FAULT.");
        RopeSwing x = new RopeSwing();
        Check.due("0", Check.swinger(x, "10 50 10 0 0"), 0);
        Check.due("empty", x.told(10), 0);
        Check.due("FAULT 1", Check.swinger(x, "11 51 11 1 x"), -11);
        Check.due("empty with a FAULT", x.told(10), 0);
        Check.due("FAULT 2", Check.swinger(x, "12 52 12 2 37"), -12);
        Check.due("nobody came", x.told(9), 1);
        Check.due("who(1, 0)", x.who(1, 0), UNKNOWN);
        Check.due("1", Check.swinger(x, "13 53 13 3 3"), 1);
        int[] due = {13, 53, 13, 3, 3};
        for (int k = 0; k < 5; k++) {
            Check.due("who(1, " + k + ")", x.who(1, k), due[k]);
        }
    }

    private static void swingerRefused() {
        Check.says("NOT: more than 40 bytes; FULL (THE TEXT stays, of both).");
        RopeSwing x = new RopeSwing();
        Check.feed(x, "10 50 10 0 0" + repeat(" ", 29));
        Check.due("41", x.swinger(), NOT);
        Check.due("41 stay", x.told(10), 41);
        Check.feed(x, repeat(" ", 259));
        Check.due("300", x.swinger(), NOT);
        Check.due("300 stay", x.told(10), 300);
        Check.due("a place takes it", x.place(), -11);
        for (int s = 0; s < 8; s++) {
            Check.swinger(x, "10 50 10 0 0");
        }
        Check.feed(x, "need 5;" + repeat(" ", 33));
        Check.due("40 of a ninth", x.swinger(), FULL);
        Check.due("40 stay", x.told(10), 40);
        Check.feed(x, " ");
        Check.due("NOT ahead of FULL", x.swinger(), NOT);
        Check.due("what stayed is a place", x.place(), 1);
        Check.due("N", x.told(7), 5);
        Check.due("an empty ninth", x.swinger(), FULL);
    }

    private static void fault() {
        Check.says("The place (from 0 on) of the byte that has the FAULT of the latest place() or swinger() that was not refused otherwise; NONE.");
        RopeSwing x = new RopeSwing();
        Check.due("of a new object", x.fault(), NONE);
        Check.place(x, "x");
        Check.due("at 0", x.fault(), 0);
        Check.place(x, repeat(" ", 299) + "x");
        Check.due("at 299", x.fault(), 299);
        Check.place(x, "need" + repeat(" ", 296));
        Check.due("at 300", x.fault(), 300);
        Check.feed(x, repeat(" ", 41));
        x.swinger();
        Check.due("NOT leaves it", x.fault(), 300);
        x.place();
        Check.due("none in blanks", x.fault(), NONE);
        Check.swinger(x, "10 x");
        Check.due("of a SWINGER", x.fault(), 3);
        for (int s = 0; s < 8; s++) {
            Check.swinger(x, "10 50 10 0 0");
            Check.due("none in SWINGER " + s, x.fault(), NONE);
        }
        Check.place(x, "need 5;need");
        Check.swinger(x, "x");
        Check.due("FULL leaves it", x.fault(), 7);
        x.feed(0, 0);
        x.set(9, 9);
        Check.due("other refusals leave it", x.fault(), 7);
        Check.due("asking leaves it", x.fault(), 7);
    }

    private static void told() {
        Check.says("Of THE PLACE: what = 0 B, 1 L, 2 S, 3 loss, 4 A, 5 V (both as told in it), 6 T, 7 N, 8 sand, 9 SWINGERS, 10 bytes of THE TEXT. OUTSIDE.");
        RopeSwing x = Check.of(ALL, "10 50 10 0 0", "10 50 10 0 0");
        Check.feed(x, "abc");
        int[] due = {500, 400, 200, 20, 30, 50, 300, 100, 7, 2, 3};
        for (int k = 0; k <= 10; k++) {
            x.set(3, 1);
            x.set(4, 1);
            Check.due("told(" + k + ")", x.told(k), due[k]);
        }
        for (int k : new int[] {-1, 11, Integer.MIN_VALUE, Integer.MAX_VALUE}) {
            Check.due("told(" + k + ")", x.told(k), OUTSIDE);
        }
    }

    private static void cell() {
        Check.says("Of a CELL: what = 0 D, 1 DEPTH now, 2 what it is (0 water, 1 stones, 2 sand). UNKNOWN, OUTSIDE.");
        RopeSwing x = Check.of("water 60,59,0,600;months 0,60;sand 2;stones 1;");
        x.set(0, 1);
        int[][] due = {{60, 0, 0}, {59, 0, 1}, {0, 0, 2}, {600, 540, 2}};
        for (int c = 0; c < 4; c++) {
            for (int k = 0; k < 3; k++) {
                Check.due("cell(" + c + ", " + k + ")", x.cell(c, k), due[c][k]);
            }
        }
        Check.due("the last", x.cell(23, 1), 140);
        for (int c : new int[] {-1, 24, Integer.MIN_VALUE, Integer.MAX_VALUE}) {
            Check.due("cell(" + c + ", 0)", x.cell(c, 0), UNKNOWN);
            Check.due("cell(" + c + ", 3)", x.cell(c, 3), UNKNOWN);
        }
        for (int k : new int[] {-1, 3, Integer.MIN_VALUE, Integer.MAX_VALUE}) {
            Check.due("cell(0, " + k + ")", x.cell(0, k), OUTSIDE);
            Check.due("cell(23, " + k + ")", x.cell(23, k), OUTSIDE);
        }
    }

    private static void who() {
        Check.says("Of a SWINGER: what = 0 W, 1 R, 2 G, 3 Q, 4 T. UNKNOWN, OUTSIDE.");
        RopeSwing x = new RopeSwing();
        Check.due("nobody is there", x.who(0, 0), UNKNOWN);
        Check.swinger(x, "10 50 11 0 1");
        int[] due = {10, 50, 11, 0, 1};
        for (int k = 0; k < 5; k++) {
            Check.due("who(0, " + k + ")", x.who(0, k), due[k]);
        }
        for (int s : new int[] {-1, 1, 7, 8, Integer.MIN_VALUE, Integer.MAX_VALUE}) {
            Check.due("who(" + s + ", 0)", x.who(s, 0), UNKNOWN);
            Check.due("who(" + s + ", 5)", x.who(s, 5), UNKNOWN);
        }
        for (int k : new int[] {-1, 5, Integer.MIN_VALUE, Integer.MAX_VALUE}) {
            Check.due("who(0, " + k + ")", x.who(0, k), OUTSIDE);
        }
    }

    private static void set() {
        Check.says("What is IN HAND: what = 0 MONTH, 1 KNOT, 2 YEARS, 3 A, 4 V becomes v: what it was.");
        RopeSwing x = new RopeSwing();
        int[] was = {0, 0, 0, 40, 100};
        for (int k = 0; k < 5; k++) {
            Check.due("set(" + k + ", 1)", x.set(k, 1), was[k]);
            Check.due("set(" + k + ", 2)", x.set(k, 2), 1);
        }
        for (int k : new int[] {-1, 5, Integer.MIN_VALUE, Integer.MAX_VALUE}) {
            Check.due("set(" + k + ", 0)", x.set(k, 0), OUTSIDE);
        }
        for (int k = 0; k < 5; k++) {
            for (int v : new int[] {Integer.MIN_VALUE, Integer.MAX_VALUE}) {
                Check.due("set(" + k + ", " + v + ")", x.set(k, v), OUTSIDE);
            }
            Check.due("as it was: now(" + k + ")", x.now(k), 2);
        }
    }

    private static void now() {
        Check.says("Now: 0 to 4 as in set(), 5 LENGTH, 6 STRENGTH, 7 what the water is lower. OUTSIDE.");
        RopeSwing x = Check.of("rope 350 100 10;months 1,2,3,4,5,6,7,8,9,10,11,12;");
        x.set(0, 11);
        x.set(1, 300);
        x.set(2, 1);
        int[] due = {11, 300, 1, 40, 100, 50, 90, 12};
        for (int k = 0; k <= 7; k++) {
            Check.due("now(" + k + ")", x.now(k), due[k]);
        }
        for (int k : new int[] {-1, 8, Integer.MIN_VALUE, Integer.MAX_VALUE}) {
            Check.due("now(" + k + ")", x.now(k), OUTSIDE);
        }
    }
}
