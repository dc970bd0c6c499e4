/**
 * Every sentence of the document's third section and of promises 14 to 24 that names a boundary case: told word for
 * word, then held to on both sides of the boundary.
 */
public final class EdgeTimesTest {
    private static final int NONE = Check.NONE, UNKNOWN = Check.UNKNOWN, OUTSIDE = Check.OUTSIDE;
    /** All land in water that is deep enough, and nobody comes back too far. */
    private static final String OPEN = "need 0;sand 24;trunk 600;";
    private static final String FEATHER = "10 50 300 0 0";

    public static void main(String[] args) {
        times();
        goodAre();
        theGreatestX();
        theHighestFeet();
        aheadOfTheFirstTick();
        bestAnswers();
        theLongestRow();
        wideAnswers();
        odds();
        oddsAnswers();
        strong();
        strongAnswers();
        heavy();
        heavyAnswers();
        may();
        months();
        theBest();
        ropeAnswers();
        turn();
        turnAnswers();
        film();
        filmAnswers();
        age();
        ageAnswers();
        Check.end("EdgeTimesTest");
    }

    /** One hangs still at x 0, if nothing else is told. */
    private static RopeSwing rest(String words, String... swingers) {
        return Check.of("start 0 0;" + words, swingers);
    }

    private static void curve(String when, RopeSwing x, int... due) {
        Check.due(when + ": farthest", x.best(0, 0), due[0]);
        Check.due(when + ": highest", x.best(0, 1), due[1]);
        Check.due(when + ": longest row", x.wide(0, 0), due[2]);
        Check.due(when + ": its first", x.wide(0, 1), due[3]);
        Check.due(when + ": all", x.wide(0, 2), due[4]);
    }

    private static void times() {
        Check.says("TIMES are TICKS 1 to 200 at which one would let go.");
        curve("all of them", rest("", FEATHER), 1, 1, 200, 1, 200);
        curve("a lag of 1", rest("", "10 50 300 1 0"), 1, 1, 199, 1, 199);
        curve("a lag of 20", rest("", "10 50 300 20 0"), 1, 1, 180, 1, 180);
        // 80 of the grip a TICK: one slips behind TICK 13
        curve("up to TICK 12", rest("", "40 50 10 0 0"), 1, 1, 12, 1, 12);
        curve("TIME 1 alone", rest("", "40 50 10 11 0"), 1, 1, 1, 1, 1);
        curve("not even TIME 1", rest("", "40 50 10 12 0"), NONE, NONE, 0, NONE, 0);
        curve("TIME 200 alone", onlyTheLast(""), 200, 200, 1, 200, 1);
    }

    /** Only from TIME 200 one lands in CELL 2, and that alone has no stones. */
    private static RopeSwing onlyTheLast(String more) {
        return Check.of("rope 331 999 0;start 11 92;" + OPEN + "stones 0,1,3,4,5,6,7,8,9,10,11,12,13,14,15,16,17,18,19,20,21,22,23;" + more, FEATHER);
    }

    private static void goodAre() {
        Check.says("GOOD are 1 and 2.");
        String[] grounds = {"sand 6;", "", "stones 6;", "need 201;", "rope 600 300 0;"};
        String[] swingers = {"10 50 300 0 9", FEATHER, FEATHER, FEATHER, "10 100 300 1 0"};
        int[] good = {200, 200, 0, 0, 0};
        int[] ends = {1, 2, 3, 3, 8};
        for (int k = 0; k < grounds.length; k++) {
            RopeSwing x = rest(grounds[k], swingers[k]);
            Check.due("'" + grounds[k] + "' END", x.lands(0, 1, 0), ends[k]);
            Check.due("'" + grounds[k] + "' GOOD", x.wide(0, 2), good[k]);
        }
        Check.due("FLAT", rest("", "10 50 300 0 9").wide(0, 2), 0);
        Check.due("SLIPPED over sand", rest("sand 6;", "150 50 10 5 0").wide(0, 2), 0);
        Check.due("BROKEN", rest("rope 450 20 0;", "30 50 300 0 0").wide(0, 2), 0);
        Check.due("HANGS over sand", rest("sand 6;", "10 50 300 20 0").wide(0, 2), 180);
    }

    private static void theGreatestX() {
        Check.says("THE FARTHEST, THE HIGHEST: of GOOD TIMES that with the greatest x, the highest feet in FLIGHT");
        Check.says("of like ones the earliest.");
        Check.says("(both as lands() tells them, hundredths / 100; ahead of the first TICK of it, too)");
        // a later TIME comes some hundredths farther: that is like
        likeX("bough 682;rope 486 999 0;start 5 213;" + OPEN, "10 50 300 0 27", 15, 214);
        // x is below 0 of all: the greatest is nearest to 0
        likeX("bough 929;rope 187 999 0;start 66 158;stones 6,7,8,9,10,11,12,13,14,15,16,17,18,19,20,21,22,23;" + OPEN, "10 50 300 0 17", 33, -6);
        RopeSwing x = Check.of("bough 735;rope 462 999 0;start 34 459;stones 6,7,8,9,10,11,12,13,14,15,16,17,18,19,20,21,22,23;" + OPEN, "10 50 300 0 21");
        Check.due("far below 0", x.best(0, 0), 176);
        Check.due("its x", x.lands(0, 176, 1), -253);
        // the last TIME, and a farther one that is not GOOD
        x = Check.of("bough 460;rope 223 999 0;start 51 109;" + OPEN, "10 50 300 0 35");
        Check.due("the last is the farthest", x.best(0, 0), 200);
        Check.due("x of the last", x.lands(0, 200, 1), 133);
        int farther = 0;
        for (int t = 1; t < 200; t++) {
            farther += x.lands(0, t, 1) > 133 ? 1 : 0;
        }
        Check.holds("farther ones are not GOOD: " + farther, farther > 0);
    }

    private static void likeX(String words, String swinger, int best, int where) {
        RopeSwing x = Check.of(words, swinger);
        Check.due("'" + words + "' farthest", x.best(0, 0), best);
        int like = 0;
        for (int t = 1; t <= 200; t++) {
            int at = x.lands(0, t, 1);
            int end = x.lands(0, t, 0);
            if (end == 1 || end == 2) {
                Check.holds("TIME " + t + " is no farther: " + at, at <= where && (t >= best || at < where));
                like += at == where ? 1 : 0;
            }
        }
        Check.holds("'" + words + "' has like ones: " + like, like > 1);
    }

    private static void theHighestFeet() {
        Check.says("of GOOD TIMES that with the greatest x, the highest feet in FLIGHT (both as lands() tells them, hundredths / 100;");
        RopeSwing x = Check.of("bough 612;rope 391 999 0;start 66 133;" + OPEN, "10 50 300 0 19");
        Check.due("a later one is some hundredths higher", x.best(0, 1), 40);
        int like = 0;
        for (int t = 1; t <= 200; t++) {
            int top = x.lands(0, t, 4);
            int end = x.lands(0, t, 0);
            if (end == 1 || end == 2) {
                Check.holds("TIME " + t + " is no higher: " + top, top <= 416 && (t >= 40 || top < 416));
                like += top == 416 ? 1 : 0;
            }
        }
        Check.holds("there are like ones: " + like, like > 1);
        x = Check.of("bough 625;rope 245 999 0;start 58 18;" + OPEN, "10 50 300 0 18");
        Check.due("the last is the highest", x.best(0, 1), 200);
        Check.due("of the last", x.lands(0, 200, 4), 449);
        // feet are below 0 all the time, and above the water: there is a highest
        x = rest("rope 640 999 0;months 300;need 0;", FEATHER);
        Check.due("feet below 0", x.lands(0, 1, 4), -30);
        Check.due("THE HIGHEST of those", x.best(0, 1), 1);
    }

    private static void aheadOfTheFirstTick() {
        Check.says("ahead of the first TICK of it, too");
        // one goes down all the FLIGHT: the feet were highest when one let go
        RopeSwing x = Check.of("bough 852;rope 401 999 0;start 5 0;" + OPEN, FEATHER);
        Check.due("highest feet", x.lands(0, 1, 4), x.holds(0, 1, 3) - 50);
        Check.due("THE HIGHEST", x.best(0, 1), 1);
        Check.due("a TIME like it", x.lands(0, 31, 4), x.lands(0, 1, 4));
        x = Check.of("bough 984;rope 545 999 0;start 25 0;" + OPEN, FEATHER);
        Check.due("highest feet of another", x.lands(0, 1, 4), x.holds(0, 1, 3) - 50);
        Check.due("THE HIGHEST of another", x.best(0, 1), 1);
    }

    private static void bestAnswers() {
        Check.says("THE FARTHEST (what = 0), THE HIGHEST (1) TIME; NONE. UNKNOWN, OUTSIDE.");
        RopeSwing x = rest("stones 6;", FEATHER);
        Check.due("no GOOD TIME: farthest", x.best(0, 0), NONE);
        Check.due("no GOOD TIME: highest", x.best(0, 1), NONE);
        for (int k : new int[] {-1, 2, Integer.MIN_VALUE, Integer.MAX_VALUE}) {
            Check.due("best(0, " + k + ")", x.best(0, k), OUTSIDE);
            Check.due("best(1, " + k + ")", x.best(1, k), UNKNOWN);
        }
        for (int s : new int[] {-1, 1, 8, Integer.MIN_VALUE, Integer.MAX_VALUE}) {
            Check.due("best(" + s + ", 0)", x.best(s, 0), UNKNOWN);
        }
    }

    private static void theLongestRow() {
        Check.says("WIDE: how many TIMES one behind the other are GOOD, the longest row; of like ones the first.");
        String[] words = {"start 30 467;stones 9;", "start 55 147;stones 11;", "start 20 410;stones 12;", "start 27 16;stones 6;"};
        int[][] due = {{15, 13, 13}, {14, 15, 22}, {33, 6, 36}, {34, 12, 56}};
        for (int k = 0; k < words.length; k++) {
            RopeSwing x = Check.of(words[k], "20 100 300 0 " + due[k][0]);
            Check.due("'" + words[k] + "' longest", x.wide(0, 0), due[k][1]);
            Check.due("'" + words[k] + "' first", x.wide(0, 1), due[k][2]);
            int rows = 0;
            int row = 0;
            for (int t = 1; t <= 200; t++) {
                int end = x.lands(0, t, 0);
                row = end == 1 || end == 2 ? row + 1 : 0;
                Check.holds("'" + words[k] + "' no longer row ends at " + t, row <= due[k][1]);
                rows += row == due[k][1] ? 1 : 0;
            }
            Check.holds("'" + words[k] + "' has like rows: " + rows, rows > 1);
        }
        // a row that ends with TIME 200
        Check.due("up to 200", onlyTheLast("").wide(0, 1), 200);
    }

    private static void wideAnswers() {
        Check.says("WIDE: what = 0 how long the row, 1 its first TIME (NONE), 2 how many TIMES are GOOD. UNKNOWN, OUTSIDE.");
        RopeSwing x = rest("stones 6;", FEATHER);
        int[] due = {0, NONE, 0};
        for (int k = 0; k < 3; k++) {
            Check.due("no GOOD TIME: wide(0, " + k + ")", x.wide(0, k), due[k]);
        }
        for (int k : new int[] {-1, 3, Integer.MIN_VALUE, Integer.MAX_VALUE}) {
            Check.due("wide(0, " + k + ")", x.wide(0, k), OUTSIDE);
            Check.due("wide(1, " + k + ")", x.wide(1, k), UNKNOWN);
        }
        for (int s : new int[] {-1, 1, 8, Integer.MIN_VALUE, Integer.MAX_VALUE}) {
            Check.due("wide(" + s + ", 0)", x.wide(s, 0), UNKNOWN);
        }
    }

    private static void odds() {
        Check.says("ODDS of a TIME with a lag that is 0 to d more, all alike: of a MILLION, how many are GOOD (MILLION times them / (d and 1)).");
        // 24 of the grip a TICK: GOOD are the TICKS 1 to 41
        RopeSwing x = rest("", "12 50 10 0 0", "12 50 10 20 0");
        Check.due("TICK 41", x.lands(0, 41, 0), 2);
        Check.due("TICK 42", x.lands(0, 42, 0), 5);
        Check.due("all 41", x.odds(0, 1, 40), 1000000);
        Check.due("40 of 41", x.odds(0, 2, 40), 975609);
        Check.due("39 of 41", x.odds(0, 3, 40), 951219);
        Check.due("1 of 41", x.odds(0, 41, 40), 24390);
        Check.due("0 of 41", x.odds(0, 42, 40), 0);
        Check.due("d 0, GOOD", x.odds(0, 41, 0), 1000000);
        Check.due("d 0, not GOOD", x.odds(0, 42, 0), 0);
        Check.due("d 1", x.odds(0, 41, 1), 500000);
        Check.due("d 2", x.odds(0, 40, 2), 666666);
        Check.due("a lag of its own, too", x.odds(1, 21, 0), 1000000);
        Check.due("a lag of its own and one more", x.odds(1, 21, 1), 500000);
        Check.due("a lag of its own beyond", x.odds(1, 22, 0), 0);
        // HANGS behind TICK 200
        x = rest("", FEATHER);
        Check.due("TIME 200", x.odds(0, 200, 0), 1000000);
        Check.due("1 of 41 at TIME 200", x.odds(0, 200, 40), 24390);
        Check.due("all up to TICK 200", x.odds(0, 160, 40), 1000000);
        Check.due("all but the last", x.odds(0, 161, 40), 975609);
    }

    private static void oddsAnswers() {
        Check.says("ODDS (d 0 .. 40). UNKNOWN, OUTSIDE.");
        RopeSwing x = rest("", FEATHER);
        for (int d : new int[] {-1, 41, Integer.MIN_VALUE, Integer.MAX_VALUE}) {
            Check.due("odds(0, 1, " + d + ")", x.odds(0, 1, d), OUTSIDE);
            Check.due("odds(1, 0, " + d + ")", x.odds(1, 0, d), UNKNOWN);
        }
        for (int t : new int[] {0, 201, Integer.MIN_VALUE, Integer.MAX_VALUE}) {
            Check.due("odds(0, " + t + ", 0)", x.odds(0, t, 0), OUTSIDE);
        }
        for (int s : new int[] {-1, 1, 8, Integer.MIN_VALUE, Integer.MAX_VALUE}) {
            Check.due("odds(" + s + ", 1, 0)", x.odds(s, 1, 0), UNKNOWN);
        }
    }

    // ---- who may

    private static void strong() {
        Check.says("STRONG: the least grip (10 .. 300) by which one does not SLIP by a TICK.");
        // at rest 1000 / grip of it a TICK: 0 is left behind TICK 10 with the least grip
        RopeSwing x = rest("", "50 50 300 0 0");
        Check.due("0 left is no SLIP", x.strong(0, 10), 10);
        Check.due("a TICK later", x.strong(0, 11), 11);
        Check.due("whatever its own grip is", rest("", "50 50 10 0 0").strong(0, 11), 11);
        // the greatest grip is just enough behind TICK 72, not behind TICK 73
        x = Check.of("start 64 573;", "130 100 10 0 0");
        Check.due("the greatest", x.strong(0, 72), 300);
        Check.due("beyond the greatest", x.strong(0, 73), NONE);
        Check.holds("300 holds", Check.of("start 64 573;", "130 100 300 0 0").holds(0, 72, 5) >= 0);
        Check.holds("299 does not", Check.of("start 64 573;", "130 100 299 0 0").holds(0, 72, 5) < 0);
        Check.holds("300 does not, a TICK later", Check.of("start 64 573;", "130 100 300 0 0").holds(0, 73, 5) < 0);
    }

    private static void strongAnswers() {
        Check.says("STRONG by TICK t (1 .. 200); NONE. UNKNOWN, OUTSIDE.");
        RopeSwing x = rest("", "10 50 300 0 0", "150 50 300 0 0");
        Check.due("by TICK 1", x.strong(0, 1), 10);
        // 200 / 34 is 5, 200 / 33 is 6
        Check.due("by TICK 200", x.strong(0, 200), 34);
        Check.due("NONE", x.strong(1, 200), NONE);
        for (int t : new int[] {0, -1, 201, Integer.MIN_VALUE, Integer.MAX_VALUE}) {
            Check.due("strong(0, " + t + ")", x.strong(0, t), OUTSIDE);
            Check.due("strong(2, " + t + ")", x.strong(2, t), UNKNOWN);
        }
        for (int s : new int[] {-1, 2, 8, Integer.MIN_VALUE, Integer.MAX_VALUE}) {
            Check.due("strong(" + s + ", 1)", x.strong(s, 1), UNKNOWN);
        }
    }

    private static void heavy() {
        Check.says("HEAVY: the greatest weight (10 .. 150) by which the rope is not BROKEN in TICKS 1 to 200 (if one held on).");
        Check.due("150", rest("rope 450 150 0;").heavy(), 150);
        Check.due("no more than 150", rest("rope 450 151 0;").heavy(), 150);
        Check.due("149", rest("rope 450 149 0;").heavy(), 149);
        // PULL on 100: 130 behind TICK 0, behind no later one more than 129
        Check.due("TICK 0 is none of them", Check.of("rope 558 129 0;start 0 410;").heavy(), 100);
        // 115 behind TICK 1, then 114
        Check.due("TICK 1 is", Check.of("rope 131 114 0;start 3 138;").heavy(), 99);
        // 243 behind TICK 200, 242 ahead of it; who holds on does so behind BACK, and below the water
        Check.due("TICK 200 is", Check.of("rope 721 242 0;start 62 503;trunk 50;").heavy(), 99);
        Check.due("a strength more", Check.of("rope 721 243 0;start 62 503;trunk 50;").heavy(), 100);
    }

    private static void heavyAnswers() {
        Check.says("HEAVY; NONE: not even 10.");
        // 20, then 10, then 5
        RopeSwing x = rest("rope 450 20 50;");
        Check.due("20", x.heavy(), 20);
        x.set(2, 1);
        Check.due("just 10", x.heavy(), 10);
        x.set(2, 2);
        Check.due("not even 10", x.heavy(), NONE);
        x = rest("rope 450 20 55;");
        x.set(2, 1);
        Check.due("STRENGTH 9", x.now(6), 9);
        Check.due("not even 10 of 9", x.heavy(), NONE);
        Check.due("SWINGERS are none of its matter", new RopeSwing().heavy(), 150);
    }

    private static void may() {
        Check.says("MAY: the SET.");
        Check.says("A SET is a whole number, bit k for k.");
        Check.says("MAY: SWINGERS who have a GOOD TIME; MONTHS: those in which one has (as a SET).");
        Check.due("nobody is told", new RopeSwing().may(), 0);
        String no = "10 50 300 0 9";
        Check.due("the first and the last of eight", rest("", FEATHER, no, no, no, no, no, no, FEATHER).may(), 1 + 128);
        Check.due("all but these", rest("", no, FEATHER, FEATHER, FEATHER, FEATHER, FEATHER, FEATHER, no).may(), 254 - 128);
        Check.due("all eight", rest("", FEATHER, FEATHER, FEATHER, FEATHER, FEATHER, FEATHER, FEATHER, FEATHER).may(), 255);
        Check.due("none of two", rest("", no, no).may(), 0);
        Check.due("by TIME 200 alone", onlyTheLast("").may(), 1);
        Check.due("by TIME 1 alone", rest("", "40 50 10 11 0").may(), 1);
        Check.due("not even by TIME 1", rest("", "40 50 10 12 0").may(), 0);
    }

    private static void months() {
        Check.says("MONTHS: the SET. UNKNOWN.");
        // DEPTH is 200 less what it is lower, 150 is needed
        RopeSwing x = rest("months 51,50,51,50,51,50,51,50,51,50,51,50;", "10 100 300 0 0");
        Check.due("every other one", x.months(0), 0xaaa);
        x.set(0, 2);
        Check.due("whatever MONTH is", x.months(0), 0xaaa);
        Check.due("that stays", x.now(0), 2);
        Check.due("all twelve", rest("", FEATHER).months(0), 4095);
        Check.due("none", rest("stones 6;", FEATHER).months(0), 0);
        x = rest("", FEATHER, "10 50 300 0 9", "40 50 10 12 0", "40 50 10 11 0");
        int[] each = {4095, 0, 0, 4095};
        for (int k = 0; k < 16; k++) {
            Check.due("one behind the other", x.months(k % 4), each[k % 4]);
            Check.due("and on", x.months(k / 4), each[k / 4]);
        }
        // feet are 40 below the bank: DRAGGED ahead of letting go, but where the water is 40 lower
        Check.due("DRAGGED", rest("rope 600 300 0;months 0,40,39,41;", "10 100 300 1 0").months(0), 2 + 8);
        Check.due("the last alone", rest("months 51,51,51,51,51,51,51,51,51,51,51,50;", "10 100 300 0 0").months(0), 2048);
        Check.due("the first alone", rest("months 50,51,51,51,51,51,51,51,51,51,51,51;", "10 100 300 0 0").months(0), 1);
        for (int s : new int[] {-1, 4, 8, Integer.MIN_VALUE, Integer.MAX_VALUE}) {
            Check.due("months(" + s + ")", x.months(s), UNKNOWN);
        }
    }

    private static void theBest() {
        Check.says("THE BEST of rope and knot: L 100, 150, .. 900 and KNOT 0, 50, .. 300 (LENGTH 50 at least) by which the longest row of GOOD TIMES is longest; of like ones the least L, then KNOT.");
        // all are alike: the least L, the least KNOT
        best("none is GOOD", rest("stones 6;", FEATHER), 100, 0, 0);
        best("all are GOOD", rest("bough 999;", FEATHER), 100, 0, 200);
        best("the least LENGTH", Check.of("bough 690;start 69 386;stones 6;sand 23;", "43 168 72 2 1"), 100, 50);
        best("the greatest L", Check.of("bough 988;start 78 10;stones 5;sand 8;", "75 79 203 2 36"), 900, 0);
        // KNOTs up to 300 in L up to 900, all told and tried
        everyRope("bough 988;start 78 10;stones 5;sand 8;", "75 79 203 2 36");
        everyRope("bough 690;start 69 386;stones 6;sand 23;", "43 168 72 2 1");
        everyRope("start 33 250;stones 8,9;sand 13;need 190;", "60 120 150 3 7");
        everyRope("bough 560;start 5 350;stones 10;", "30 60 250 1 0");
    }

    private static void best(String when, RopeSwing x, int... due) {
        for (int k = 0; k < due.length; k++) {
            Check.due(when + ": rope(0, " + k + ")", x.rope(0, k), due[k]);
        }
    }

    private static void everyRope(String words, String swinger) {
        int longest = -1;
        int rope = 0;
        int knot = 0;
        for (int l = 100; l <= 900; l += 50) {
            RopeSwing x = Check.of(words + "rope " + l + " 300 10;", swinger);
            for (int k = 0; k <= 300; k += 50) {
                Check.holds("KNOT " + k + " in L " + l, x.set(1, k) >= 0 == l - k >= 50);
                int row = l - k >= 50 ? x.wide(0, 0) : -1;
                if (row > longest) {
                    longest = row;
                    rope = l;
                    knot = k;
                }
            }
        }
        best("'" + words + "'", Check.of(words, swinger), rope, knot, longest);
    }

    private static void ropeAnswers() {
        Check.says("THE BEST: what = 0 L, 1 KNOT, 2 how long the row. UNKNOWN, OUTSIDE.");
        RopeSwing x = rest("rope 900 300 10;", FEATHER);
        x.set(1, 30);
        Check.due("L", x.rope(0, 0), 100);
        Check.due("KNOT", x.rope(0, 1), 0);
        Check.due("row", x.rope(0, 2), 200);
        Check.due("KNOT stays", x.now(1), 30);
        Check.due("LENGTH stays", x.now(5), 870);
        for (int k : new int[] {-1, 3, Integer.MIN_VALUE, Integer.MAX_VALUE}) {
            Check.due("rope(0, " + k + ")", x.rope(0, k), OUTSIDE);
            Check.due("rope(1, " + k + ")", x.rope(1, k), UNKNOWN);
        }
        for (int s : new int[] {-1, 1, 8, Integer.MIN_VALUE, Integer.MAX_VALUE}) {
            Check.due("rope(" + s + ", 0)", x.rope(s, 0), UNKNOWN);
        }
    }

    private static void turn() {
        Check.says("TURN: the least T (0 .. 36) by which a TIME ends DEEP; NONE.");
        // who does not turn is ROUND, so it is 0 or NONE
        RopeSwing x = rest("", "50 50 10 0 36", "50 50 10 3 9");
        Check.due("the least", x.turn(0, 10), 0);
        Check.due("SLIPPED", x.turn(0, 11), NONE);
        Check.due("with the lag", x.turn(1, 7), 0);
        Check.due("beyond it", x.turn(1, 8), NONE);
        Check.due("its own T stays", x.who(0, 4), 36);
        Check.due("OVER is not DEEP", rest("sand 6;", FEATHER).turn(0, 1), NONE);
        Check.due("stones", rest("stones 6;", FEATHER).turn(0, 1), NONE);
        Check.due("DEPTH is N", rest("need 200;", FEATHER).turn(0, 1), 0);
        Check.due("DEPTH is less", rest("need 201;", FEATHER).turn(0, 1), NONE);
        Check.due("BROKEN", rest("rope 450 20 0;", "21 50 300 0 0").turn(0, 1), NONE);
        Check.due("DRAGGED", rest("rope 650 300 0;", "21 50 300 1 0").turn(0, 1), NONE);
    }

    private static void turnAnswers() {
        Check.says("TURN; NONE. UNKNOWN, OUTSIDE.");
        RopeSwing x = rest("", FEATHER, "10 50 300 1 0");
        Check.due("TIME 1", x.turn(0, 1), 0);
        Check.due("TIME 200", x.turn(0, 200), 0);
        Check.due("TIME 200, HANGS", x.turn(1, 200), NONE);
        for (int t : new int[] {0, -1, 201, Integer.MIN_VALUE, Integer.MAX_VALUE}) {
            Check.due("turn(0, " + t + ")", x.turn(0, t), OUTSIDE);
            Check.due("turn(2, " + t + ")", x.turn(2, t), UNKNOWN);
        }
        for (int s : new int[] {-1, 2, 8, Integer.MIN_VALUE, Integer.MAX_VALUE}) {
            Check.due("turn(" + s + ", 1)", x.turn(s, 1), UNKNOWN);
        }
    }

    private static void film() {
        Check.says("FILM: the run (0 .. 600) by which ANGLE / 1000 behind a TICK is nearest to what is told; of like ones the least.");
        // behind TICK 1 of A 0 ANGLE is 2865 * V / 450
        RopeSwing x = Check.of("start 0 77;");
        Check.due("the least of like ones, at 0", x.film(1, 0), 0);
        Check.due("the least of like ones, at 1", x.film(1, 1), 158);
        Check.due("the least of like ones, at 3", x.film(1, 3), 472);
        Check.due("V is as it was", x.now(4), 77);
        // a run of 600 is the nearest, no other
        filmIs("rope 532 300 10;start 75 0;", 0, 50, 103, 600);
        filmIs("rope 787 300 10;start 74 0;", 0, 41, 99, 600);
        // a run of 601 would be nearer
        filmIs("rope 148 300 10;start 57 0;", 0, 36, 97, 600);
        filmIs("rope 147 300 10;start 61 0;", 0, 48, -6, 600);
        filmIs("rope 177 300 10;start 76 0;", 0, 42, 125, 600);
        // nearest from both sides, one too much, one too little
        filmIs("rope 123 300 10;start 16 0;", 50, 52, -155, 509);
        filmIs("rope 110 300 10;start 51 0;", 50, 60, 53, 314);
        // / 1000 cuts towards 0: from -999 on it is 0
        filmIs("rope 583 300 10;start 28 0;", 0, 11, 0, 399);
        filmIs("rope 358 300 10;start 58 0;", 0, 11, 0, 455);
    }

    /** Every run is tried by setting V. */
    private static void filmIs(String words, int knot, int t, int a, int due) {
        int nearest = -1;
        int least = Integer.MAX_VALUE;
        RopeSwing x = null;
        for (int v = 0; v <= 600; v++) {
            if (v % 200 == 0) {
                x = Check.of(words, FEATHER);
                x.set(1, knot);
            }
            x.set(4, v);
            int off = Math.abs(x.holds(0, t, 0) / 1000 - a);
            if (off < least) {
                least = off;
                nearest = v;
            }
        }
        Check.due("'" + words + "' the test's own run", nearest, due);
        Check.due("'" + words + "' film(" + t + ", " + a + ")", x.film(t, a), due);
    }

    private static void filmAnswers() {
        Check.says("FILM of ANGLE a (-180 .. 180 degrees) behind a TICK (1 .. 200): the run. OUTSIDE.");
        RopeSwing x = new RopeSwing();
        Check.due("-180", x.film(1, -180), 0);
        Check.holds("180", x.film(1, 180) >= 0);
        Check.holds("TICK 200", x.film(200, 0) >= 0);
        filmIs("rope 450 300 10;", 0, 200, 180, Check.of("rope 450 300 10;").film(200, 180));
        for (int t : new int[] {0, -1, 201, Integer.MIN_VALUE, Integer.MAX_VALUE}) {
            Check.due("film(" + t + ", 0)", x.film(t, 0), OUTSIDE);
        }
        for (int a : new int[] {-181, 181, Integer.MIN_VALUE, Integer.MAX_VALUE}) {
            Check.due("film(1, " + a + ")", x.film(1, a), OUTSIDE);
        }
    }

    private static void age() {
        Check.says("AGE: the first YEAR (0 .. 40) by which a SWINGER has no GOOD TIME; NONE.");
        // a strength of 1 is lost each YEAR: 189 comes to 149 by 40 YEARS, 190 to 150
        Check.due("40 YEARS", rest("rope 450 189 1;", "150 50 300 0 0").age(0), 40);
        Check.due("more than 40", rest("rope 450 190 1;", "150 50 300 0 0").age(0), NONE);
        Check.due("39 YEARS", rest("rope 450 188 1;", "150 50 300 0 0").age(0), 39);
        Check.due("1 YEAR", rest("rope 450 150 1;", "150 50 300 0 0").age(0), 1);
        Check.due("0 YEARS", rest("rope 450 149 1;", "150 50 300 0 0").age(0), 0);
        Check.due("nothing is lost", rest("rope 450 150 0;", "150 50 300 0 0").age(0), NONE);
        Check.due("never GOOD", rest("stones 6;", FEATHER).age(0), 0);
    }

    private static void ageAnswers() {
        Check.says("AGE; NONE. UNKNOWN.");
        RopeSwing x = rest("rope 450 189 1;", "150 50 300 0 0");
        x.set(2, 40);
        Check.due("whatever YEARS are", x.age(0), 40);
        Check.due("they stay", x.now(2), 40);
        for (int s : new int[] {-1, 1, 8, Integer.MIN_VALUE, Integer.MAX_VALUE}) {
            Check.due("age(" + s + ")", x.age(s), UNKNOWN);
        }
    }
}
