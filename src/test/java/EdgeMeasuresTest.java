/**
 * Every sentence of the document's fourth section and of promises 25 to 31 that names a boundary case: told word for
 * word, then held to on both sides of the boundary.
 */
public final class EdgeMeasuresTest {
    private static final int NONE = Check.NONE, UNKNOWN = Check.UNKNOWN, OUTSIDE = Check.OUTSIDE, NOT = Check.NOT;
    private static final String FEATHER = "10 50 300 0 0";

    public static void main(String[] args) {
        nobodyBelow30();
        nobodyAbove90();
        aRunOfNone();
        theRopeIsNew();
        aWordIsSaid();
        fiftyOrMoreLower();
        theFarthestOfWithout();
        atTime20();
        noMeasureKeepsOut();
        harmedAnswers();
        fewest();
        ofLikeOnesTheLeast();
        enoughAnswers();
        theSeed();
        aDraw();
        seedAnswers();
        whoIsDrawn();
        whenIsDrawn();
        afternoonAnswers();
        endsAnswers();
        images();
        knotIsHeld();
        keepAnswers();
        goBackAnswers();
        Check.end("EdgeMeasuresTest");
    }

    /** One hangs still at x 0, if nothing else is told. */
    private static RopeSwing rest(String words, String... swingers) {
        return Check.of("start 0 0;" + words, swingers);
    }

    // ---- MEASURES

    /** Of all SETS those that have this MEASURE are enough for the one SWINGER, no other. */
    private static void itAlone(String when, RopeSwing x, int measure) {
        for (int measures = 0; measures <= 63; measures++) {
            Check.due(when + ": harmed(" + measures + ")", x.harmed(measures), (measures & measure) != 0 ? 0 : 1);
        }
        Check.due(when + ": enough()", x.enough(), measure);
    }

    private static void nobodyBelow30() {
        Check.says("0 nobody below 30 swings;");
        RopeSwing x = rest("stones 6;", "10 50 300 0 0", "29 50 300 0 0", "30 50 300 0 0", "31 50 300 0 0", "150 50 300 0 0");
        Check.due("without", x.harmed(0), 31);
        Check.due("with it", x.harmed(1), 31 - 3);
        itAlone("one below 30", rest("stones 6;", "29 50 300 0 0"), 1);
    }

    private static void nobodyAbove90() {
        Check.says("1 nobody above 90;");
        RopeSwing x = rest("stones 6;", "10 50 300 0 0", "89 50 300 0 0", "90 50 300 0 0", "91 50 300 0 0", "150 50 300 0 0");
        Check.due("without", x.harmed(0), 31);
        Check.due("with it", x.harmed(2), 31 - 24);
        itAlone("one above 90", rest("stones 6;", "91 50 300 0 0"), 2);
        Check.due("with both", rest("stones 6;", "29 50 300 0 0", "30 50 300 0 0", "90 50 300 0 0", "91 50 300 0 0").harmed(3), 2 + 4);
    }

    private static void aRunOfNone() {
        Check.says("2 a run of 0;");
        // at rest all is well; with a run the rope breaks
        RopeSwing x = Check.of("start 0 600;rope 450 50 0;", "45 100 300 0 0");
        Check.due("with a run", x.harmed(0), 1);
        Check.due("without a run", x.harmed(4), 0);
        Check.due("V is as it was", x.now(4), 600);
        itAlone("a run", x, 4);
        // not even a run of 1: that ends on the stones, a run of 0 does not
        String words = "rope 503 200 0;start 2 126;stones 6;";
        x = Check.of(words, "53 50 300 0 0");
        int time = x.best(0, 0);
        Check.due("a run of 0", x.harmed(4), 0);
        x.set(4, 1);
        Check.due("a run of 1 would end SHORT", x.lands(0, time, 0), 3);
        x.set(4, 0);
        Check.due("a run of 0 does not", x.lands(0, time, 0) == 3 ? 1 : 0, 0);
    }

    private static void theRopeIsNew() {
        Check.says("3 the rope is new (YEARS 0);");
        // 100, 99: one of 100 is borne by the new rope alone
        RopeSwing x = rest("rope 450 100 1;", "100 50 300 0 0");
        Check.due("YEARS 0", x.harmed(0), 0);
        x.set(2, 1);
        Check.due("YEARS 1", x.harmed(0), 1);
        Check.due("a new rope", x.harmed(8), 0);
        Check.due("YEARS are as they were", x.now(2), 1);
        x.set(2, 40);
        Check.due("YEARS 40", x.harmed(0), 1);
        Check.due("a new rope for one of 40", x.harmed(8), 0);
        Check.due("STRENGTH is as it was", x.now(6) < 100 ? 1 : 0, 1);
        x = rest("rope 450 100 1;", "101 50 300 0 0");
        Check.due("not even a new rope", x.harmed(8), 1);
        x = rest("rope 450 80 5;", "80 50 300 0 0");
        x.set(2, 1);
        itAlone("a year", x, 8);
    }

    private static void aWordIsSaid() {
        Check.says("4 a word is said (lags are 0);");
        // 48 of the grip a TICK: 20 TICKS, behind TICK 21 one slips; no GOOD TIME, so it is TIME 20
        RopeSwing x = rest("", "24 50 10 20 0");
        Check.due("TICK 40", x.harmed(0), 1);
        Check.due("TICK 20", x.harmed(16), 0);
        Check.due("the lag is as it was", x.who(0, 3), 20);
        // 50 of it: just 0 is left behind TICK 20; 52: below 0
        Check.due("0 is left behind TICK 20", rest("", "25 50 10 20 0").harmed(16), 0);
        Check.due("below 0 behind TICK 20", rest("", "26 50 10 20 0").harmed(16), 1);
        itAlone("a lag", rest("", "30 50 12 20 0"), 16);
    }

    private static void fiftyOrMoreLower() {
        Check.says("5 nobody swings in a MONTH in which the water is 50 or more lower.");
        RopeSwing x = rest("stones 6;months 0,49,50,51,300;", FEATHER);
        int[] due = {1, 1, 0, 0, 0, 1};
        for (int m = 0; m < due.length; m++) {
            x.set(0, m);
            Check.due("MONTH " + m + " without", x.harmed(0), 1);
            Check.due("MONTH " + m + " with it", x.harmed(32), due[m]);
        }
        itAlone("low water", rest("stones 6;months 50;", "30 50 300 0 0"), 32);
        itAlone("low water for the heavy", rest("stones 6;months 50;", "90 50 300 0 0"), 32);
    }

    private static void theFarthestOfWithout() {
        Check.says("HARMED is a SWINGER, if letting go at THE FARTHEST of what is so without MEASURES");
        // the TIME stays that of a run of 600: without the run one ends over the stones at it, though another TIME is GOOD
        RopeSwing x = Check.of("start 40 600;stones 6,7,8;", "50 100 300 0 0");
        int time = x.best(0, 0);
        Check.due("without", x.harmed(0), 0);
        RopeSwing y = Check.of("start 40 0;stones 6,7,8;", "50 100 300 0 0");
        int end = y.lands(0, time, 0);
        Check.due("with a run of 0", x.harmed(4), end == 1 || end == 2 ? 0 : 1);
        Check.holds("there is a GOOD TIME with a run of 0, too", y.best(0, 0) != NONE && y.best(0, 0) != time);
        Check.due("letting go at that is not harmed", y.harmed(0), 0);
        Check.due("with a run of 0 one comes to harm", x.harmed(4), 1);
        Check.due("THE FARTHEST is as it was", x.best(0, 0), time);
    }

    private static void atTime20() {
        Check.says("(a SWINGER without one: at TIME 20)");
        // FLAT at all TIMES; the grip lasts 20 TICKS, 19 TICKS: but FLAT is no harm that a word ends
        Check.due("FLAT", rest("", "10 50 300 0 9").harmed(16), 1);
        // a lag of 20 is too long at any TIME: without it TIME 20 is GOOD by 20 TICKS of grip, not by 19
        Check.due("grip for 20 TICKS", rest("", "25 50 10 20 0").best(0, 0), NONE);
        Check.due("grip for 20 TICKS, a word", rest("", "25 50 10 20 0").harmed(16), 0);
        Check.due("grip for 19 TICKS, a word", rest("", "26 50 10 20 0").harmed(16), 1);
        // only by TIMES 1 to 19 one lands beside the stones, at 20 on them: that TIME alone counts
        timeIs20();
    }

    /** A rope that breaks of age: no GOOD TIME; with a new one all TIMES but 20 are GOOD, or 20 alone. */
    private static void timeIs20() {
        String words = "rope 450 60 99;start 40 100;sand 24;need 0;trunk 600;";
        RopeSwing x = Check.of(words, "30 100 300 0 0");
        int c = (x.lands(0, 20, 1) + 300) / 50;
        int beside = (x.lands(0, 19, 1) + 300) / 50;
        int behind = (x.lands(0, 21, 1) + 300) / 50;
        Check.due("TIME 20 is GOOD", x.lands(0, 20, 0), 2);
        int[] cells = {c, beside, behind};
        for (int k = 0; k < 3; k++) {
            for (int only = 0; only < 2; only++) {
                StringBuilder stones = new StringBuilder();
                for (int n = 0; n < 24; n++) {
                    stones.append(n == cells[k] == (only == 0) ? (stones.length() == 0 ? "" : ",") + n : "");
                }
                RopeSwing y = Check.of(words + "stones " + stones + ";", "30 100 300 0 0");
                y.set(2, 2);
                Check.due("an old rope breaks at all TIMES", y.best(0, 0), NONE);
                Check.due("HARMED", y.harmed(0), 1);
                boolean stony = cells[k] == c == (only == 0);
                Check.due("a new rope, stones " + stones, y.harmed(8), stony ? 1 : 0);
            }
        }
        Check.holds("TIMES 19, 21 come elsewhere: " + beside + " " + c + " " + behind, beside != c || behind != c);
    }

    private static void noMeasureKeepsOut() {
        Check.says("does not end GOOD, and no MEASURE keeps the SWINGER out.");
        // all of them together, one by one: each keeps out those of its own
        RopeSwing x = rest("stones 6;months 0,50;", "29 50 300 0 0", "30 50 300 0 0", "91 50 300 0 0");
        for (int measures = 0; measures <= 63; measures++) {
            for (int month = 0; month < 2; month++) {
                x.set(0, month);
                int due = (measures & 1) != 0 ? 6 : 7;
                due &= (measures & 2) != 0 ? 3 : 7;
                due &= (measures & 32) != 0 && month == 1 ? 0 : 7;
                Check.due("harmed(" + measures + ") in MONTH " + month, x.harmed(measures), due);
            }
        }
        Check.due("who ends GOOD is not HARMED", rest("", FEATHER, "150 50 300 0 0").harmed(0), 0);
    }

    private static void harmedAnswers() {
        Check.says("HARMED by a SET of MEASURES: the SET of SWINGERS. OUTSIDE (0 .. 63).");
        String[] eight = {FEATHER, "10 50 300 0 9", FEATHER, FEATHER, FEATHER, FEATHER, FEATHER, "10 50 300 0 9"};
        RopeSwing x = rest("", eight);
        Check.due("the second and the last of eight", x.harmed(0), 2 + 128);
        Check.due("all MEASURES", x.harmed(63), 0);
        Check.due("all but the light", x.harmed(62), 2 + 128);
        for (int m : new int[] {-1, 64, 65, Integer.MIN_VALUE, Integer.MAX_VALUE}) {
            Check.due("harmed(" + m + ")", x.harmed(m), OUTSIDE);
        }
        Check.due("nobody is told", new RopeSwing().harmed(0), 0);
        Check.due("nobody is told, all MEASURES", new RopeSwing().harmed(63), 0);
    }

    private static void fewest() {
        Check.says("ENOUGH: the SET of fewest MEASURES by which nobody is HARMED;");
        RopeSwing x = rest("stones 6;months 50;", "29 50 300 0 0", "91 50 300 0 0");
        Check.due("one of 32 ahead of two of 3", x.enough(), 32);
        x = rest("stones 6;", "29 50 300 0 0", "91 50 300 0 0");
        Check.due("two", x.enough(), 3);
        // none is needed
        Check.due("none", rest("", FEATHER).enough(), 0);
        // a run too many, a rope too old, a lag too long: three of them, and no fewer
        x = Check.of("start 0 600;rope 450 100 50;", "40 100 16 20 0", "40 100 300 0 0");
        x.set(2, 1);
        int enough = x.enough();
        Check.holds("some are enough: " + enough, enough > 0);
        Check.due("nobody is HARMED by them", x.harmed(enough), 0);
        for (int measures = 0; measures <= 63; measures++) {
            if (Integer.bitCount(measures) < Integer.bitCount(enough)) {
                Check.holds("fewer are not: " + measures, x.harmed(measures) != 0);
            }
        }
    }

    private static void ofLikeOnesTheLeast() {
        Check.says("ENOUGH: the SET of fewest MEASURES by which nobody is HARMED; of like ones the least; NONE.");
        Check.due("1 ahead of 32", rest("stones 6;months 50;", "29 50 300 0 0").enough(), 1);
        Check.due("2 ahead of 32", rest("stones 6;months 50;", "91 50 300 0 0").enough(), 2);
        // who is above 90 slips by the lag: 2 or 16
        Check.due("2 ahead of 16", rest("", "100 100 40 20 0").enough(), 2);
        Check.due("16 alone", rest("", "90 100 36 20 0").enough(), 16);
        // 2 and 16, or 8 and 16: the rope breaks of age under one above 90, another is late
        RopeSwing x = rest("rope 450 100 10;", "95 100 300 0 0", "80 100 32 20 0");
        x.set(2, 1);
        Check.due("each alone is not enough", x.harmed(2) != 0 && x.harmed(8) != 0 && x.harmed(16) != 0 ? 1 : 0, 1);
        Check.due("18 ahead of 24", x.enough(), 2 + 16);
        Check.due("24 would do, too", x.harmed(8 + 16), 0);
    }

    private static void enoughAnswers() {
        Check.says("ENOUGH; NONE.");
        Check.due("stones", rest("stones 6;", FEATHER, "50 50 300 0 0").enough(), NONE);
        Check.due("stones, water 49 lower", rest("stones 6;months 49;", "50 50 300 0 0").enough(), NONE);
        Check.due("nobody is told", new RopeSwing().enough(), 0);
        Check.due("nobody is told, stones", rest("stones 6;").enough(), 0);
        // all six are looked at: 63 less what is not needed
        RopeSwing x = rest("stones 6;months 50;", "50 50 300 0 0");
        Check.due("32", x.enough(), 32);
    }

    // ---- AFTERNOONS

    private static void theSeed() {
        Check.says("THE SEED (0 at first: each DRAW it becomes it times 1103515245 and 12345, left over by 2 to the 31;");
        RopeSwing x = rest("", FEATHER);
        Check.due("at first", x.seed(0), 0);
        // 0, 12345, 1406932606: two DRAWS a time
        x.afternoon(1);
        Check.due("behind two DRAWS", x.seed(0), 1406932606);
        long seed = 2147483647;
        x.seed(2147483647);
        for (int n = 1; n <= 40; n++) {
            for (int k = 0; k < 2 * n; k++) {
                seed = java.math.BigInteger.valueOf(seed).multiply(java.math.BigInteger.valueOf(1103515245)).add(java.math.BigInteger.valueOf(12345))
                    .mod(java.math.BigInteger.ONE.shiftLeft(31)).longValueExact();
            }
            x.afternoon(n);
            int now = x.seed(0);
            Check.due("behind an AFTERNOON of " + n, now, seed);
            x.seed(now);
        }
    }

    private static void aDraw() {
        Check.says("the DRAW of n is it / 65536, left over by n): n times: a SWINGER by a DRAW of how many there are, a TIME by 1 and a DRAW of 60: how many ended GOOD; of each END how often is counted.");
        // 20 of the grip a TICK: GOOD are the TIMES up to 50, as every second DRAW tells
        int[] seeds = {0, 1, 65535, 65536, 2147483646, 2147483647};
        for (int k : seeds) {
            RopeSwing x = rest("", "10 50 10 0 0");
            int good = 0;
            long seed = k;
            x.seed(k);
            for (int i = 0; i < 40; i++) {
                seed = (seed * 1103515245L + 12345L) % 2147483648L;
                seed = (seed * 1103515245L + 12345L) % 2147483648L;
                good += 1 + (int) (seed / 65536 % 60) <= 50 ? 1 : 0;
            }
            Check.due("an AFTERNOON of 40 by " + k, x.afternoon(40), good);
            Check.due("DEEP by " + k, x.ends(2), good);
            Check.due("SLIPPED by " + k, x.ends(5), 40 - good);
        }
    }

    private static void seedAnswers() {
        Check.says("THE SEED becomes v (0 .. 2147483647): what it was. OUTSIDE.");
        RopeSwing x = new RopeSwing();
        Check.due("the greatest", x.seed(2147483647), 0);
        Check.due("below", x.seed(-1), OUTSIDE);
        Check.due("far below", x.seed(Integer.MIN_VALUE), OUTSIDE);
        Check.due("the least", x.seed(0), 2147483647);
        Check.due("what it was", x.seed(1), 0);
    }

    /** A seed by which the first DRAW, the second DRAW are those. */
    private static int seedFor(int n, int who, int when) {
        for (int v = 0; v < 10000000; v++) {
            long first = (v * 1103515245L + 12345L) % 2147483648L;
            long second = (first * 1103515245L + 12345L) % 2147483648L;
            if (first / 65536 % n == who && second / 65536 % 60 == when) {
                return v;
            }
        }
        Check.holds("there is no such seed", false);
        return 0;
    }

    private static void whoIsDrawn() {
        Check.says("a SWINGER by a DRAW of how many there are");
        for (int n = 1; n <= 8; n++) {
            for (int who = 0; who < n; who += Math.max(1, n - 1)) {
                String[] all = new String[n];
                for (int s = 0; s < n; s++) {
                    // one alone turns: FLAT
                    all[s] = s == who ? "10 50 300 0 9" : FEATHER;
                }
                RopeSwing x = rest("", all);
                x.seed(seedFor(n, who, 30));
                Check.due("SWINGER " + who + " of " + n, x.afternoon(1), 0);
                Check.due("FLAT", x.ends(4), 1);
                if (n > 1) {
                    x.seed(seedFor(n, who == 0 ? 1 : 0, 30));
                    Check.due("another of " + n, x.afternoon(1), 1);
                    Check.due("DEEP", x.ends(2), 1);
                }
            }
        }
    }

    private static void whenIsDrawn() {
        Check.says("a TIME by 1 and a DRAW of 60");
        // a lag by which TIME 1 is the last GOOD one; then one by which none is
        RopeSwing x = rest("", "40 50 10 11 0");
        x.seed(seedFor(1, 0, 0));
        Check.due("TIME 1", x.afternoon(1), 1);
        x.seed(seedFor(1, 0, 1));
        Check.due("TIME 2", x.afternoon(1), 0);
        x = rest("", "40 50 10 12 0");
        x.seed(seedFor(1, 0, 0));
        Check.due("a TICK too late at TIME 1", x.afternoon(1), 0);
        // 16 of the grip a TICK: 62 TICKS; with a lag of 2 that is TIME 60, with 3 it is 59
        x = rest("", "10 50 12 2 0");
        Check.due("62 TICKS", x.holds(0, 62, 5), 8);
        x.seed(seedFor(1, 0, 59));
        Check.due("TIME 60", x.afternoon(1), 1);
        x = rest("", "10 50 12 3 0");
        x.seed(seedFor(1, 0, 59));
        Check.due("TIME 60 a TICK too late", x.afternoon(1), 0);
        x.seed(seedFor(1, 0, 58));
        Check.due("TIME 59", x.afternoon(1), 1);
    }

    private static void afternoonAnswers() {
        Check.says("AN AFTERNOON of n (1 .. 40): how many ended GOOD. OUTSIDE, NOT: there are no SWINGERS.");
        RopeSwing x = rest("");
        Check.due("nobody", x.afternoon(1), NOT);
        Check.due("nobody, 40", x.afternoon(40), NOT);
        for (int n : new int[] {0, -1, 41, Integer.MIN_VALUE, Integer.MAX_VALUE}) {
            Check.due("OUTSIDE ahead of NOT: " + n, x.afternoon(n), OUTSIDE);
        }
        Check.due("no DRAW was made", x.seed(0), 0);
        Check.swinger(x, FEATHER);
        for (int n : new int[] {0, -1, 41, Integer.MIN_VALUE, Integer.MAX_VALUE}) {
            Check.due("afternoon(" + n + ")", x.afternoon(n), OUTSIDE);
        }
        Check.due("no DRAW was made of these", x.seed(0), 0);
        Check.due("1", x.afternoon(1), 1);
        Check.due("40", x.afternoon(40), 40);
        Check.due("41 in all", x.ends(2), 41);
        x = rest("stones 6;", FEATHER);
        Check.due("none is GOOD", x.afternoon(40), 0);
    }

    private static void endsAnswers() {
        Check.says("How often an END (0 .. 8) came in AFTERNOONS. OUTSIDE.");
        RopeSwing x = new RopeSwing();
        for (int e = 0; e <= 8; e++) {
            Check.due("at first: ends(" + e + ")", x.ends(e), 0);
        }
        for (int e : new int[] {-1, 9, Integer.MIN_VALUE, Integer.MAX_VALUE}) {
            Check.due("ends(" + e + ")", x.ends(e), OUTSIDE);
        }
        // letting go is no AFTERNOON; each END that can come by TIME 60 comes
        String[] places = {"start 0 0;sand 6;", "start 0 0;", "start 0 0;stones 6;", "start 0 0;", "start 0 0;", "rope 100 999 0;start 80 0;trunk 50;", "start 0 0;rope 450 20 0;", "start 0 0;rope 650 300 0;"};
        String[] swingers = {FEATHER, FEATHER, FEATHER, "10 50 300 0 9", "150 50 10 20 0", "10 50 300 20 0", "21 50 300 0 0", "10 50 300 20 0"};
        for (int e = 1; e <= 8; e++) {
            RopeSwing y = Check.of(places[e - 1], swingers[e - 1]);
            y.lands(0, 60, 0);
            Check.due("none came yet: " + e, y.ends(e), 0);
            y.afternoon(40);
            int others = 0;
            for (int k = 0; k <= 8; k++) {
                others += k == e ? 0 : y.ends(k);
            }
            Check.holds("END " + e + " came " + y.ends(e) + " times", y.ends(e) > 0 && y.ends(e) + others == 40);
            if (e != 6) {
                Check.due("no other than " + e, others, 0);
            }
        }
    }

    // ---- IMAGES

    private static void images() {
        Check.says("IMAGES 0, 1 keep what is IN HAND (KNOT is held to L less 50 when one goes back), THE SEED, ENDS that were counted.");
        RopeSwing x = Check.of("bough 999;rope 900 300 10;start 0 0;", FEATHER, "10 50 300 0 9");
        int[] most = {11, 300, 40, 80, 600};
        x.afternoon(40);
        int deep = x.ends(2);
        Check.holds("some were DEEP, some FLAT: " + deep, deep > 0 && deep < 40);
        for (int k = 0; k < 5; k++) {
            x.set(k, most[k]);
        }
        x.seed(2147483647);
        x.keep(0);
        for (int k = 0; k < 5; k++) {
            x.set(k, 0);
        }
        x.seed(0);
        x.keep(1);
        x.afternoon(40);
        for (int round = 0; round < 2; round++) {
            x.goBack(0);
            for (int k = 0; k < 5; k++) {
                Check.due("of IMAGE 0: now(" + k + ")", x.now(k), most[k]);
            }
            Check.due("of IMAGE 0: ENDS", x.ends(2), deep);
            Check.due("of IMAGE 0: THE SEED", x.seed(1), 2147483647);
            x.afternoon(7);
            x.goBack(1);
            for (int k = 0; k < 5; k++) {
                Check.due("of IMAGE 1: now(" + k + ")", x.now(k), 0);
            }
            Check.due("of IMAGE 1: ENDS", x.ends(2) + x.ends(4), 40);
            Check.due("of IMAGE 1: THE SEED", x.seed(1), 0);
            x.afternoon(7);
        }
    }

    private static void knotIsHeld() {
        Check.says("(KNOT is held to L less 50 when one goes back)");
        RopeSwing x = Check.of("rope 900 300 10;");
        x.set(1, 300);
        x.keep(0);
        int[][] due = {{100, 50}, {349, 299}, {350, 300}, {351, 300}, {900, 300}, {101, 51}, {350, 300}};
        for (int[] d : due) {
            Check.place(x, "rope " + d[0] + " 300 10;");
            Check.due("L " + d[0] + ": goBack", x.goBack(0), 1);
            Check.due("L " + d[0] + ": KNOT", x.now(1), d[1]);
            Check.due("L " + d[0] + ": LENGTH", x.now(5), d[0] - d[1]);
        }
        // a KNOT that is small enough stays, also at its bound
        for (int knot : new int[] {0, 49, 50, 51}) {
            x = Check.of("rope 900 300 10;");
            x.set(1, knot);
            x.keep(1);
            Check.place(x, "rope 100 300 10;");
            x.goBack(1);
            Check.due("KNOT " + knot + " in L 100", x.now(1), Math.min(50, knot));
        }
    }

    private static void keepAnswers() {
        Check.says("IMAGE i becomes what is so: 1. UNKNOWN.");
        RopeSwing x = new RopeSwing();
        Check.due("keep(0)", x.keep(0), 1);
        Check.due("keep(1)", x.keep(1), 1);
        Check.due("keep(0) again", x.keep(0), 1);
        for (int i : new int[] {-1, 2, Integer.MIN_VALUE, Integer.MAX_VALUE}) {
            Check.due("keep(" + i + ")", x.keep(i), UNKNOWN);
        }
    }

    private static void goBackAnswers() {
        Check.says("What is so becomes IMAGE i: 1. UNKNOWN, NOT: it was not kept.");
        RopeSwing x = new RopeSwing();
        for (int i : new int[] {-1, 2, Integer.MIN_VALUE, Integer.MAX_VALUE}) {
            Check.due("goBack(" + i + ")", x.goBack(i), UNKNOWN);
        }
        Check.due("0 was not kept", x.goBack(0), NOT);
        Check.due("1 was not kept", x.goBack(1), NOT);
        x.keep(1);
        Check.due("0 was not kept, 1 was", x.goBack(0), NOT);
        Check.due("1 was", x.goBack(1), 1);
        Check.due("and is for ever", x.goBack(1), 1);
        x.keep(0);
        Check.due("0, too", x.goBack(0), 1);
        for (int i : new int[] {-1, 2}) {
            Check.due("still UNKNOWN: " + i, x.goBack(i), UNKNOWN);
        }
    }
}
