/**
 * Every sentence of the document's second section and of promises 11 to 13 that names a boundary case: told word for
 * word, then held to on both sides of the boundary.
 */
public final class EdgeSwingsTest {
    private static final int UNKNOWN = Check.UNKNOWN, OUTSIDE = Check.OUTSIDE;
    private static final int HANGS = 0, OVER = 1, DEEP = 2, SHORT = 3, FLAT = 4, SLIPPED = 5, BACK = 6, BROKEN = 7, DRAGGED = 8;
    /** Nobody touches the water's bottom, no sand, a rope that holds. */
    private static final String OPEN = "need 0;sand 24;";

    public static void main(String[] args) {
        quotients();
        cellsOfX();
        sines();
        beyondUpright();
        atFirst();
        inATick();
        handsAre();
        noPullBelowNone();
        leftOfTheGrip();
        broken();
        slips();
        lettingGo();
        back();
        dragged();
        hangs();
        theFirstOfThese();
        heights();
        depth();
        flight();
        landing();
        sandIsNotLower();
        fourHundredTicks();
        round();
        ends();
        slippedWherever();
        where();
        sine();
        holds();
        lands();
        withoutFlight();
        refused();
        Check.end("EdgeSwingsTest");
    }

    /** One hangs still at x 0, if nothing else is told. */
    private static RopeSwing rest(String words, String... swingers) {
        return Check.of("start 0 0;" + words, swingers);
    }

    private static void lands(String when, RopeSwing x, int time, int... due) {
        for (int k = 0; k < due.length; k++) {
            Check.due(when + ": lands(0, " + time + ", " + k + ")", x.lands(0, time, k), due[k]);
        }
    }

    // ---- numbers, CELLS, SINE

    private static void quotients() {
        Check.says("All numbers are whole; / cuts towards 0.");
        RopeSwing x = Check.of("", "50 150 100 2 0");
        // 450 * -641 / 1000 is -288.45
        Check.due("x", x.holds(0, 0, 2), -288);
        // above the bough COSINE is below 0: 660 - (50 * -984 / 1000), 49.2
        RopeSwing y = Check.of("rope 100 999 0;start 0 600;", "10 50 300 0 0");
        y.set(1, 50);
        int t = 1;
        while (t < 60 && y.holds(0, t, 3) <= 660) {
            t++;
        }
        int cosine = y.sine(900 - Math.abs(y.holds(0, t, 0) / 100));
        Check.holds("COSINE is " + cosine, cosine < 0 && 50 * cosine % 1000 != 0);
        Check.due("height above the bough", y.holds(0, t, 3), 660 + 50 * -cosine / 1000);
        // PACE: 140 * SINE / 450 of SINE -641 is -199.4, of PACE 636 makes 835
        Check.due("PACE", x.holds(0, 1, 1), 835);
        // hundredths: from -80 at x, and from below 0 at the highest feet
        lands("x -80 hundredths", Check.of("bough 998;rope 299 999 0;start 62 331;" + OPEN, "10 50 300 0 0"), 2, DEEP, 0);
        lands("x -5098 hundredths", Check.of("bough 844;rope 347 999 0;start 66 522;" + OPEN, "10 50 300 0 0"), 48, DEEP, -50);
        lands("x -5180 hundredths", Check.of("bough 912;rope 253 999 0;start 66 466;" + OPEN, "10 50 300 0 0"), 40, DEEP, -51);
        lands("x 9998 hundredths", Check.of("bough 790;rope 722 999 0;start 5 85;" + OPEN, "10 50 300 0 0"), 39, DEEP, 99);
    }

    /** Where one lands, hundredths from the borders: with stones in that CELL it is SHORT, with stones in all others not. */
    private static void cellsOfX() {
        Check.says("CELLS are 0 to 23, of 50 each: CELL of an x: (x and 300) / 50, 0 if x is below -300, 23 at most.");
        cellIs(0, -351, "bough 508;rope 310 999 0;start 40 116;", 55);
        cellIs(0, -350, "bough 942;rope 104 999 0;start 72 386;", 31);
        cellIs(0, -301, "bough 632;rope 467 999 0;start 52 521;", 59);
        cellIs(0, -300, "bough 668;rope 350 999 0;start 24 263;", 48);
        cellIs(0, -251, "bough 896;rope 473 999 0;start 57 308;", 58);
        cellIs(1, -250, "bough 441;rope 142 999 0;start 40 400;", 30);
        cellIs(1, -201, "bough 832;rope 651 999 0;start 15 412;", 58);
        cellIs(2, -200, "bough 889;rope 833 999 0;start 54 31;", 20);
        cellIs(4, -51, "bough 912;rope 253 999 0;start 66 466;", 40);
        cellIs(5, -50, "bough 844;rope 347 999 0;start 66 522;", 48);
        cellIs(6, 0, "bough 998;rope 299 999 0;start 62 331;", 2);
        cellIs(6, 49, "bough 645;rope 113 999 0;start 45 10;", 4);
        cellIs(7, 50, "bough 915;rope 316 999 0;start 9 43;", 5);
        cellIs(7, 99, "bough 790;rope 722 999 0;start 5 85;", 39);
        cellIs(8, 100, "bough 486;rope 232 999 0;start 20 189;", 3);
        cellIs(22, 849, "bough 800;rope 503 999 0;start 79 44;", 39);
        cellIs(23, 850, "bough 855;rope 799 999 0;start 74 257;", 54);
        cellIs(23, 899, "bough 985;rope 280 999 0;start 77 344;", 20);
        cellIs(23, 900, "bough 969;rope 795 999 0;start 63 257;", 28);
        cellIs(23, 1339, "bough 847;rope 897 999 0;start 63 264;months 242;", 40);
    }

    private static void cellIs(int c, int where, String words, int time) {
        StringBuilder others = new StringBuilder();
        for (int k = 0; k < 24; k++) {
            others.append(k == c ? "" : (others.length() == 0 ? "" : ",") + k);
        }
        String when = "CELL " + c + " of x " + where;
        String feet = where == 1339 ? "10 79 300 0 0" : "10 50 300 0 0";
        if (where == 1339) {
            // with sand there; over the water one would fly on
            lands(when, Check.of(words + "need 0;sand 23;", feet), time, OVER, where);
            return;
        }
        lands(when + ", stones there", Check.of(words + OPEN + "stones " + c + ";", feet), time, SHORT, where);
        lands(when + ", stones elsewhere", Check.of(words + OPEN + "stones " + others + ";", feet), time, DEEP, where);
    }

    private static void sines() {
        Check.says("SINE of an angle a in tenths of a degree (0 .. 1800): 4000 times a times (1800 less a) / (4050000 less a times (1800 less a)); of one below 0 that of it without sign, below 0.");
        RopeSwing x = new RopeSwing();
        int[][] due = {{0, 0}, {1, 1}, {2, 3}, {299, 498}, {300, 500}, {899, 999}, {900, 1000}, {901, 999}, {1500, 500}, {1798, 3}, {1799, 1}, {1800, 0}};
        for (int[] d : due) {
            Check.due("sine(" + d[0] + ")", x.sine(d[0]), d[1]);
            Check.due("sine(" + -d[0] + ")", x.sine(-d[0]), -d[1]);
        }
    }

    private static void beyondUpright() {
        Check.says("COSINE: SINE of 900 less the angle without sign. Angles beyond 1800 without sign count as 1800.");
        RopeSwing x = Check.of("rope 100 999 0;start 0 600;", "10 50 300 0 0");
        x.set(1, 50);
        upsideDown("ANGLE " + x.holds(0, 100, 0), x, 100, x.holds(0, 99, 1));
        Check.holds("it is beyond 180 degrees", x.holds(0, 100, 0) > 181000);
        // and on the other side: 262 thousandths beyond, then beyond 1800 tenths
        x = Check.of("rope 100 999 0;start 0 440;", "10 50 300 0 0");
        x.set(1, 50);
        Check.due("ANGLE behind TICK 81", x.holds(0, 81, 0), -180262);
        Check.due("PACE behind TICK 81", x.holds(0, 81, 1), -480);
        upsideDown("ANGLE behind TICK 82", x, 82, -480);
        upsideDown("ANGLE behind TICK 200", x, 200, -480);
        // just a tenth beyond, on both sides
        x = Check.of("rope 100 999 0;start 0 477;", "10 50 300 0 0");
        x.set(1, 50);
        Check.due("a tenth beyond", x.holds(0, 10, 0), 180146);
        upsideDown("a tenth beyond", x, 10, x.holds(0, 10, 1));
        Check.due("PACE behind it stays", x.holds(0, 11, 1), 10644);
        x = Check.of("rope 100 999 0;start 17 428;", "10 50 300 0 0");
        x.set(1, 50);
        Check.due("a tenth beyond on the other side", x.holds(0, 77, 0), -180177);
        upsideDown("a tenth beyond on the other side", x, 77, x.holds(0, 77, 1));
        Check.due("PACE behind it stays, too", x.holds(0, 78, 1), -278);
        // at 1800 itself SINE is 0, too; a tenth ahead of it is 1
        Check.due("sine(1799)", x.sine(1799), 1);
    }

    private static void upsideDown(String when, RopeSwing x, int t, int pace) {
        Check.due(when + ": PACE", x.holds(0, t, 1), pace);
        Check.due(when + ": x", x.holds(0, t, 2), 0);
        Check.due(when + ": height", x.holds(0, t, 3), 660 + 50);
        Check.due(when + ": PULL", x.holds(0, t, 4), Math.max(0, 10 * (-100 + (long) pace * pace * 50 / 80500000) / 100));
    }

    // ---- one SWINGS

    private static void atFirst() {
        Check.says("ANGLE in thousandths of a degree, at first -1000 times A; PACE in thousandths of a degree a TICK, at first 2865 times V / LENGTH.");
        RopeSwing x = Check.of("rope 900 300 10;", "10 50 300 0 0");
        int[][] due = {{0, 0, 900, 0, 0}, {80, 600, 900, -80000, 1910}, {80, 600, 600, -80000, 2865}, {0, 1, 900, 0, 3}, {1, 599, 899, -1000, 1908}};
        for (int[] d : due) {
            x.set(3, d[0]);
            x.set(4, d[1]);
            x.set(1, 900 - d[2]);
            Check.due("ANGLE at first", x.holds(0, 0, 0), d[3]);
            Check.due("PACE at first, LENGTH " + d[2], x.holds(0, 0, 1), d[4]);
        }
        x = Check.of("rope 100 300 10;start 0 600;", "10 50 300 0 0");
        x.set(1, 50);
        Check.due("the greatest PACE at first", x.holds(0, 0, 1), 34380);
    }

    private static void inATick() {
        Check.says("In a TICK: PACE is less by 140 times SINE (of ANGLE / 100) / LENGTH; then ANGLE is PACE more.");
        // LENGTHs, starts: each TICK from what was behind the one ahead of it; ANGLE / 100 and the loss are cut towards 0
        int[][] all = {{450, 40, 100}, {900, 80, 600}, {100, 3, 1}, {899, 1, 0}};
        for (int[] one : all) {
            RopeSwing x = Check.of("rope " + one[0] + " 300 10;start " + one[1] + " " + one[2] + ";", "10 50 300 0 0");
            for (int t = 0; t < 60; t++) {
                int pace = x.holds(0, t, 1) - 140 * x.sine(x.holds(0, t, 0) / 100) / one[0];
                Check.due("PACE behind " + (t + 1), x.holds(0, t + 1, 1), pace);
                Check.due("ANGLE behind " + (t + 1), x.holds(0, t + 1, 0), x.holds(0, t, 0) + pace);
            }
        }
        // 140 * 6 / 900 is 0, 140 * 7 / 900 is 1: from SINE 7 on PACE is less
        RopeSwing x = Check.of("rope 900 300 10;start 1 0;", "10 50 300 0 0");
        Check.due("SINE of a degree", x.sine(10), 17);
        Check.due("PACE behind the first TICK", x.holds(0, 1, 1), 140 * 17 / 900);
        x.set(3, 0);
        Check.due("one hangs still", x.holds(0, 200, 1), 0);
        x.set(4, 1);
        Check.due("a run of 1", x.holds(0, 0, 1), 3);
        Check.due("nothing is lost at 3 thousandths", x.holds(0, 1, 1), 3);
    }

    private static void handsAre() {
        Check.says("x of the hands: LENGTH times SINE / 1000; their height: B less LENGTH times COSINE / 1000.");
        for (int knot = 0; knot <= 50; knot += 50) {
            RopeSwing x = Check.of("bough 200;rope 100 999 0;start 80 350;", "10 50 300 0 0");
            x.set(1, knot);
            int over = 0;
            for (int t = 0; t <= 80; t++) {
                int angle = x.holds(0, t, 0) / 100;
                int tenths = Math.max(-1800, Math.min(1800, angle));
                int cosine = x.sine(900 - Math.abs(tenths));
                Check.due("x behind " + t, x.holds(0, t, 2), (100 - knot) * x.sine(tenths) / 1000);
                Check.due("height behind " + t, x.holds(0, t, 3), 200 - (100 - knot) * cosine / 1000);
                over += cosine < 0 ? 1 : 0;
            }
            Check.holds("one comes above the bough: " + over, over > 0);
        }
    }

    private static void noPullBelowNone() {
        Check.says("PULL behind a TICK: W times (COSINE / 10 and PACE times PACE times LENGTH / 80500000) / 100, 0 at least.");
        RopeSwing x = Check.of("rope 100 999 0;start 0 440;", "150 50 10 0 0");
        x.set(1, 50);
        // upside down and slowly: COSINE / 10 is -100, and PACE adds nothing
        Check.due("PULL", x.holds(0, 81, 4), 0);
        Check.due("LEFT is not more than before", x.holds(0, 81, 5), x.holds(0, 80, 5));
        int none = 0;
        for (int t = 1; t <= 100; t++) {
            int pull = x.holds(0, t, 4);
            Check.holds("PULL behind " + t + ": " + pull, pull >= 0);
            none += pull == 0 ? 1 : 0;
        }
        Check.holds("some TICKS pull nothing: " + none, none > 1 && none < 100);
        // PACE times PACE times LENGTH is beyond 2 to the 31, and to the 32
        x = Check.of("rope 450 999 0;start 0 600;", "100 50 10 0 0");
        Check.due("a great PACE", x.holds(0, 0, 1), 3820);
        Check.due("PULL of it", x.holds(0, 1, 4), x.sine(900 - 38) / 10 + 3820L * 3820 * 450 / 80500000);
        // just 322 times 80500000 of LENGTH 100, PACE 16100; a little less than 322 times of PACE 16099
        x = Check.of("rope 100 999 0;start 56 468;", "100 50 10 0 0");
        int pace = x.holds(0, 3, 1);
        Check.due("PACE behind TICK 3", (long) pace * pace * 100, 322 * 80500000L);
        Check.due("PULL of it, too", x.holds(0, 3, 4), x.sine(900 - Math.abs(x.holds(0, 3, 0) / 100)) / 10 + 322);
    }

    private static void leftOfTheGrip() {
        Check.says("LEFT of the grip is 1000 at first, behind each TICK less by PULL times 20 / G.");
        // PULL 10 at rest: 200 / G of it, cut
        int[][] due = {{10, 20}, {199, 1}, {200, 1}, {201, 0}, {300, 0}, {67, 2}, {66, 3}};
        for (int[] d : due) {
            RopeSwing x = rest("", "10 50 " + d[0] + " 0 0");
            Check.due("at first, G " + d[0], x.holds(0, 0, 5), 1000);
            Check.due("behind TICK 1, G " + d[0], x.holds(0, 1, 5), 1000 - d[1]);
            Check.due("behind TICK 200, G " + d[0], x.holds(0, 200, 5), 1000 - 200 * d[1]);
        }
    }

    // ---- behind each TICK

    private static void broken() {
        Check.says("PULL is more than STRENGTH: BROKEN.");
        RopeSwing x = rest("rope 450 50 0;", "50 50 300 0 0");
        Check.due("PULL is STRENGTH", x.holds(0, 1, 4), x.now(6));
        lands("PULL is STRENGTH", x, 9, DEEP);
        lands("PULL is one more", rest("rope 450 50 0;", "51 50 300 0 0"), 9, BROKEN, 0, 1, 0, 0, 0);
        lands("PULL is one less", rest("rope 450 50 0;", "49 50 300 0 0"), 9, DEEP);
    }

    private static void slips() {
        Check.says("LEFT is below 0: one SLIPS.");
        // 20 * 5 / 10: 100 of it a TICK, so 0 is left behind TICK 10
        RopeSwing x = rest("", "50 50 10 0 0");
        Check.due("LEFT behind TICK 10", x.holds(0, 10, 5), 0);
        lands("0 is left", x, 10, DEEP, 0, 10);
        lands("below 0", x, 11, SLIPPED, 0, 11);
        lands("for ever", x, 200, SLIPPED, 0, 11);
        x = rest("", "50 50 18 0 0");
        Check.due("55 a TICK", x.holds(0, 18, 5), 10);
        lands("10 are left", x, 18, DEEP, 0, 18);
        lands("45 below", x, 19, SLIPPED, 0, 19);
        // 13 times 77 is 1001
        x = rest("", "77 50 20 0 0");
        Check.due("77 a TICK", x.holds(0, 13, 5), -1);
        lands("76 are left", x, 12, DEEP, 0, 12);
        lands("1 below", x, 13, SLIPPED, 0, 13);
    }

    private static void lettingGo() {
        Check.says("The TICK is that of letting go and the lag (or more): one lets go.");
        for (int lag : new int[] {0, 1, 20}) {
            RopeSwing x = rest("", "10 50 300 " + lag + " 0");
            lands("lag " + lag, x, 1, DEEP, 0, 1 + lag);
            lands("lag " + lag, x, 199 - lag, DEEP, 0, 199);
            lands("lag " + lag, x, 200 - lag, DEEP, 0, 200);
            if (lag > 0) {
                lands("lag " + lag + " beyond TICK 200", x, 201 - lag, HANGS, 0, 200, 0, 0, 0);
            }
        }
    }

    private static void back() {
        Check.says("PACE is below 0 and x is below less T: BACK.");
        // one starts at x -51, behind a trunk of 50, with PACE 0; rising to the bough's side comes first
        RopeSwing x = Check.of("rope 100 999 0;start 80 0;trunk 50;", "10 50 300 0 0");
        Check.holds("one starts behind the trunk", x.holds(0, 1, 2) < -50 && x.holds(0, 1, 1) > 0);
        Check.holds("that is not BACK", x.lands(0, 2, 2) == 2);
        int t = 1;
        while (t < 100 && (x.holds(0, t, 1) >= 0 || x.holds(0, t, 2) >= -50)) {
            t++;
        }
        int far = x.holds(0, t, 2);
        Check.holds("one comes back to " + far + " behind " + t, t < 100 && far < -50);
        lands("BACK", x, 200, BACK, far, t, 0, 0, 0);
        lands("as far as the trunk", Check.of("rope 100 999 0;start 80 0;trunk " + -far + ";", "10 50 300 0 0"), t + 1, DEEP);
        lands("one behind the trunk", Check.of("rope 100 999 0;start 80 0;trunk " + (-far - 1) + ";", "10 50 300 0 0"), t + 1, BACK, far, t);
        // a PACE of 0 can't be told from one below 0 here: ANGLE stays, so one was as far back, with a PACE below 0, before
    }

    private static void dragged() {
        Check.says("Feet (height less R) are below the water, and the CELL is water, no stones: DRAGGED.");
        // hands at 60
        String low = "rope 600 300 0;";
        lands("feet at 0", rest(low, "10 60 300 0 0"), 2, DEEP, 0, 2);
        lands("feet at -1", rest(low, "10 61 300 0 0"), 2, DRAGGED, 0, 1, 0, 0, 0);
        lands("feet at -1, stones", rest(low + "stones 6;", "10 61 300 0 0"), 2, SHORT, 0, 2);
        lands("feet at -1, sand", rest(low + "sand 6;", "10 61 300 0 0"), 2, OVER, 0, 2);
        lands("feet at -1, stones beside", rest(low + "stones 5,7;sand 8;", "10 61 300 0 0"), 2, DRAGGED, 0, 1);
        lands("feet at -1, water at -1", rest(low + "months 1;", "10 61 300 0 0"), 2, DEEP, 0, 2);
        lands("feet at -2, water at -1", rest(low + "months 1;", "10 62 300 0 0"), 2, DRAGGED, 0, 1);
    }

    private static void hangs() {
        Check.says("After TICK 200: HANGS.");
        RopeSwing x = rest("", "10 50 300 1 0");
        lands("behind TICK 200", x, 199, DEEP, 0, 200);
        lands("after TICK 200", x, 200, HANGS, 0, 200, 0, 0, 0);
        // whatever became of another before
        x = rest("rope 450 100 0;", "10 50 300 1 0", "101 50 300 0 0", "100 50 10 0 0");
        for (int other = 1; other <= 2; other++) {
            Check.due("another does not hang", x.lands(other, 200, 0), other == 1 ? BROKEN : SLIPPED);
            lands("one hangs behind another", x, 200, HANGS, 0, 200, 0, 0, 0);
        }
        x = rest("", "10 50 300 1 0");
        x.set(3, 9);
        lands("where the hands are", x, 200, HANGS, x.holds(0, 200, 2), 200, 0, 0, 0);
    }

    private static void theFirstOfThese() {
        Check.says("Behind each TICK, the first of these:");
        // all behind TICK 1; letting go is asked for at TIME 1, too
        lands("BROKEN ahead of SLIPS, of letting go", rest("rope 450 20 0;", "150 50 10 0 0"), 1, BROKEN, 0, 1, 0);
        lands("SLIPS ahead of letting go", rest("rope 450 999 0;", "100 50 10 0 0"), 6, SLIPPED, 0, 6);
        lands("SLIPS ahead of DRAGGED", rest("rope 600 999 0;stones 6;", "100 100 10 0 0"), 200, SLIPPED, 0, 6);
        lands("letting go ahead of DRAGGED", rest("rope 600 300 0;", "10 100 300 0 0"), 1, DEEP, 0, 1);
        lands("BROKEN ahead of DRAGGED", rest("rope 600 20 0;", "30 100 300 0 0"), 1, BROKEN, 0, 1);
        backAheadOfDragged();
        RopeSwing x = Check.of("rope 100 999 0;start 80 0;trunk 50;", "10 50 300 0 0");
        int t = x.lands(0, 200, 2);
        Check.due("BACK", x.lands(0, 200, 0), BACK);
        lands("letting go ahead of BACK", x, t, DEEP);
        Check.due("at that TICK", x.lands(0, t, 2), t);
        // behind TICK 200 itself, ahead of HANGS
        lands("BROKEN at TICK 200", Check.of("bough 880;rope 326 66 0;start 31 99;trunk 342;stones 1,2,3,4,5,6,7,8,9,10,11,12,13,14,15,19,20,23;", "51 124 300 1 0"), 200, BROKEN, 0, 200);
        slipsAtTheLast();
        lands("BACK at TICK 200", Check.of("bough 999;rope 738 999 0;start 8 475;trunk 410;", "10 50 300 1 0"), 200, BACK, -411, 200);
        lands("HANGS, with a trunk one farther", Check.of("bough 999;rope 738 999 0;start 8 475;trunk 411;", "10 50 300 1 0"), 200, HANGS, -411, 200);
        x = Check.of("bough 557;rope 352 208 0;start 80 458;trunk 543;stones 0,1,2,3,4,5,6,8,10,12,13,14,15,16,18,19,20,22;", "40 210 300 1 0");
        lands("DRAGGED at TICK 200", x, 200, DRAGGED, x.holds(0, 200, 2), 200, 0, 0, 0);
        Check.holds("letting go ahead of DRAGGED at TICK 200", x.lands(0, 199, 0) != DRAGGED && x.lands(0, 199, 3) > 0);
        Check.due("at that TICK", x.lands(0, 199, 2), 200);
    }

    private static void backAheadOfDragged() {
        // feet are below the water all the time; stones but in the CELL behind the trunk
        String words = "rope 640 999 0;start 0 100;trunk 50;sand 24;stones 0,1,2,3,5,6,7,8,9,10,11,12;";
        RopeSwing x = Check.of(words, "10 200 300 0 0");
        int t = x.lands(0, 200, 2);
        Check.holds("at x " + x.holds(0, t, 2), x.holds(0, t, 2) < -50 && x.holds(0, t, 2) >= -100 && x.holds(0, t, 1) < 0);
        Check.holds("feet are below", x.holds(0, t, 3) < 200);
        lands("BACK ahead of DRAGGED", x, 200, BACK, x.holds(0, t, 2), t, 0, 0, 0);
        lands("DRAGGED without that trunk", Check.of(words.replace("trunk 50", "trunk 600"), "10 200 300 0 0"), 200, DRAGGED, x.holds(0, t, 2), t);
    }

    private static void slipsAtTheLast() {
        RopeSwing x = Check.of("start 64 316;rope 143 999 0;", "35 50 171 1 0");
        Check.holds("LEFT behind TICK 199", x.holds(0, 199, 5) >= 0);
        Check.holds("LEFT behind TICK 200", x.holds(0, 200, 5) < 0);
        lands("SLIPS at TICK 200", x, 200, SLIPPED, x.lands(0, 200, 1), 200);
        lands("SLIPS ahead of letting go at TICK 200", x, 199, SLIPPED, x.lands(0, 200, 1), 200);
    }

    // ---- water, stones, sand

    private static void heights() {
        Check.says("The water is at 0 less what it is lower in MONTH; sand, stones are at 0, too, stones at the water's height.");
        // feet at 110: 11025 hundredths in 10 TICKS, 13475 in 11: 24 lower is reached in 11, 25 in 12
        for (int lower : new int[] {0, 1, 24, 25}) {
            int ticks = lower == 0 ? 10 : lower < 25 ? 11 : 12;
            String months = "need 0;months 0," + lower + ";";
            RopeSwing x = rest(months, "10 100 300 0 0");
            x.set(0, 1);
            lands("water " + lower + " lower", x, 1, DEEP, 0, 1, ticks);
            x = rest(months + "stones 6;", "10 100 300 0 0");
            x.set(0, 1);
            lands("stones " + lower + " lower", x, 1, SHORT, 0, 1, ticks);
            x = rest(months + "sand 6;", "10 100 300 0 0");
            x.set(0, 1);
            lands("sand, water " + lower + " lower", x, 1, OVER, 0, 1, 10);
            x.set(0, 0);
            lands("in another MONTH", x, 1, OVER, 0, 1, 10);
        }
    }

    private static void depth() {
        Check.says("DEPTH of a CELL: D less what it is lower, 0 at least.");
        RopeSwing x = rest("water 100,99,101,0,600;months 0,100,300;", "10 100 300 0 0");
        int[][] due = {{100, 99, 101, 0, 600}, {0, 0, 1, 0, 500}, {0, 0, 0, 0, 300}};
        for (int month = 0; month < 3; month++) {
            x.set(0, month);
            for (int c = 0; c < 5; c++) {
                Check.due("DEPTH of " + c + " in MONTH " + month, x.cell(c, 1), due[month][c]);
            }
        }
        // a DEPTH of 0, D far below what it is lower, is as deep as a need of 0
        lands("need 0", rest("need 0;water 0,0,0,0,0,0,0;months 300;", "10 100 300 0 0"), 1, DEEP);
        lands("need 1", rest("need 1;water 0,0,0,0,0,0,0;months 300;", "10 100 300 0 0"), 1, SHORT);
    }

    // ---- FLIGHT

    private static void flight() {
        Check.says("FLIGHT (one lets go or SLIPS): in hundredths: U = PACE times LENGTH / 573; across U times COSINE / 1000, up U times SINE / 1000; from 100 times x and 100 times the height of the feet. In each TICK: across and up are added, then up is less by 245.");
        // forth and back, up and down, by letting go and, with the second SWINGER, by slipping behind TICK 11
        RopeSwing x = Check.of("bough 700;rope 400 999 0;start 70 200;months 30;" + OPEN, "10 60 300 0 0", "10 60 10 0 0");
        int back = 0;
        int down = 0;
        for (int t = 1; t <= 64; t += 3) {
            flightIs(x, t);
            back += x.holds(0, t, 1) < 0 ? 1 : 0;
            down += x.holds(0, t, 1) < 0 == x.holds(0, t, 0) > 0 ? 1 : 0;
        }
        Check.holds("forth and back, up and down", back > 3 && back < 19 && down > 3 && down < 19);
        int slip = x.lands(1, 200, 2);
        Check.due("one slips", x.lands(1, 200, 0), SLIPPED);
        for (int k = 1; k <= 4; k++) {
            Check.due("slipping is like letting go: " + k, x.lands(1, 200, k), x.lands(0, slip, k));
        }
    }

    private static void flightIs(RopeSwing x, int t) {
        int u = x.holds(0, t, 1) * 400 / 573;
        int angle = x.holds(0, t, 0) / 100;
        int across = u * x.sine(900 - Math.abs(angle)) / 1000;
        int up = u * x.sine(angle) / 1000;
        int at = 100 * x.holds(0, t, 2);
        int y = 100 * (x.holds(0, t, 3) - 60);
        int top = y;
        int ticks = 0;
        while (ticks == 0 || y > -3000) {
            at += across;
            y += up;
            up -= 245;
            top = Math.max(top, y);
            ticks++;
        }
        lands("letting go at " + t, x, t, DEEP, at / 100, t, ticks, top / 100, 0);
    }

    private static void landing() {
        Check.says("One LANDS behind the first TICK at which feet are at or below the water's height (at or below 0, if the CELL is sand)");
        // one falls 245 * k * (k - 1) / 2 hundredths in k TICKS: 29400 in 16
        lands("feet just at the water", rest("rope 266 300 0;", "10 100 300 0 0"), 1, DEEP, 0, 1, 16, 294);
        lands("feet a little above", rest("rope 265 300 0;", "10 100 300 0 0"), 1, DEEP, 0, 1, 17, 295);
        lands("feet just at water 6 lower", rest("rope 272 300 0;months 6;", "10 100 300 0 0"), 1, DEEP, 0, 1, 16, 288);
        lands("feet a little above water 7 lower", rest("rope 272 300 0;months 7;", "10 100 300 0 0"), 1, DEEP, 0, 1, 17, 288);
        lands("feet just at the sand", rest("rope 266 300 0;sand 6;", "10 100 300 0 0"), 1, OVER, 0, 1, 16, 294);
        lands("feet a little above the sand", rest("rope 265 300 0;sand 6;", "10 100 300 0 0"), 1, OVER, 0, 1, 17, 295);
        // behind the first TICK, not ahead of it: feet are there already
        lands("feet at 0", rest("rope 560 300 0;", "10 100 300 0 0"), 1, DEEP, 0, 1, 1, 0);
        lands("feet below stones", rest("rope 600 300 0;stones 6;", "10 100 300 0 0"), 1, SHORT, 0, 1, 1, -40);
        // hundredths count: 89, 4 of them above the sand and one hundred are not at it
        lands("89 hundredths above the sand", Check.of("bough 841;rope 631 999 0;start 48 196;need 0;", "10 93 300 0 0"), 47, OVER, 509, 47, 19);
        lands("4 hundredths above the sand", Check.of("bough 392;rope 443 999 0;start 57 71;months 233;sand 9;need 0;", "10 118 300 0 0"), 41, OVER, 396, 41, 9);
        lands("15 hundredths above the water", Check.of("bough 564;rope 314 999 0;start 25 185;months 139;sand 11;need 0;", "10 94 300 0 0"), 42, DEEP, -149, 42, 16);
        lands("27 hundredths above the water", Check.of("bough 988;rope 675 999 0;start 41 342;months 154;sand 21;need 0;trunk 600;", "10 112 300 0 0"), 99, DEEP, -536, 99, 24);
        lands("a hundredth above the sand", Check.of("bough 660;rope 509 999 0;start 36 153;sand 1;", "10 50 300 0 0"), 41, OVER, 329, 41, 15);
        // at them in flight: no hundredth is left
        lands("just at the sand", Check.of("bough 593;rope 451 999 0;start 59 350;months 216;sand 7;need 0;", "10 56 300 0 0"), 50, OVER, 213, 50, 9);
        lands("just at the water", Check.of("bough 410;rope 663 999 0;start 53 141;months 228;sand 20;need 0;", "10 106 300 0 0"), 5, DEEP, -430, 5, 5);
    }

    private static void sandIsNotLower() {
        Check.says("(at or below 0, if the CELL is sand)");
        // feet are below 0 already, above the water, when one comes over the sand
        lands("into the sand's side, forth", Check.of("bough 509;rope 730 999 0;start 74 522;months 291;sand 20;need 0;", "10 69 300 0 0"), 23, OVER, 709, 23, 10);
        lands("into the sand's side, late", Check.of("bough 808;rope 407 999 0;start 51 568;months 202;sand 7;need 0;", "10 95 300 0 0"), 94, OVER, 60, 94, 14);
        // below 0 beside the sand, by some hundredths; below 0 just over it
        lands("ahead of the sand's side at 44556", Check.of("bough 390;rope 356 999 0;start 60 101;months 127;sand 15;need 0;trunk 600;", "10 87 300 0 0"), 22, OVER, 472, 22, 13);
        lands("in the sand's side at 35084", Check.of("bough 788;rope 849 999 0;start 46 276;months 237;sand 13;need 0;trunk 600;", "10 74 300 0 0"), 24, OVER, 350, 24, 8);
        lands("with the sand farther one lands in the water", Check.of("bough 808;rope 407 999 0;start 51 568;months 202;sand 9;need 0;", "10 95 300 0 0"), 94, DEEP);
    }

    private static void fourHundredTicks() {
        Check.says("400 TICKS at most (then: HANGS)");
        // no FLIGHT takes so long: the highest and fastest ones land, far ahead of it
        int longest = 0;
        for (int length = 50; length <= 900; length += 50) {
            RopeSwing x = Check.of("bough 999;rope " + Math.max(100, length) + " 999 0;months 300;start 80 600;" + OPEN, "10 50 300 0 0");
            x.set(1, Math.max(100, length) - length);
            for (int t = 1; t <= 200; t++) {
                int ticks = x.lands(0, t, 3);
                longest = Math.max(longest, ticks);
                if (ticks > 0) {
                    Check.holds("LENGTH " + length + ", TIME " + t + " does not hang", x.lands(0, t, 0) != HANGS);
                }
            }
        }
        Check.holds("the longest takes " + longest, longest > 40 && longest < 400);
    }

    private static void round() {
        Check.says("TURNED: T times TICKS of FLIGHT, left over by 360: ROUND, if it is 30 or less, or 330 or more.");
        // 15 TICKS from 257
        int[][] due = {{0, DEEP, 0}, {2, DEEP, 30}, {3, FLAT, 45}, {21, FLAT, 315}, {22, DEEP, 330}, {23, DEEP, 345}, {24, DEEP, 0}, {25, DEEP, 15}, {26, DEEP, 30}, {27, FLAT, 45}, {36, FLAT, 180}};
        for (int[] d : due) {
            lands("T " + d[0], rest("rope 303 300 0;", "10 100 300 0 " + d[0]), 1, d[1], 0, 1, 15, 257, d[2]);
        }
        // 31 TICKS of T 1, 47 of T 7: 31 and 329
        lands("31", rest("bough 999;rope 100 999 0;months 290;need 0;", "10 50 300 0 1"), 1, FLAT, 0, 1, 31, 849, 31);
        RopeSwing x = Check.of("bough 999;rope 795 999 0;start 76 579;months 300;" + OPEN, "10 50 300 0 7");
        Check.due("47 TICKS", x.lands(0, 39, 3), 47);
        Check.due("329", x.lands(0, 39, 5), 329);
        Check.due("329 is FLAT", x.lands(0, 39, 0), FLAT);
    }

    private static void ends() {
        Check.says("ENDS: 0 HANGS, 1 OVER (LANDS on sand), 2 DEEP (water, no stones, DEPTH is N or more, ROUND), 3 SHORT (stones, or DEPTH is less), 4 FLAT (DEPTH is N or more, not ROUND), 5 SLIPPED (wherever one LANDS), 6 BACK, 7 BROKEN, 8 DRAGGED.");
        String six = "water 0,0,0,0,0,0,";
        lands("DEPTH is N", rest(six + "150;", "10 100 300 0 0"), 1, DEEP);
        lands("DEPTH is less", rest(six + "149;", "10 100 300 0 0"), 1, SHORT);
        lands("DEPTH is more", rest(six + "151;", "10 100 300 0 0"), 1, DEEP);
        lands("DEPTH is N, not ROUND", rest(six + "150;", "10 100 300 0 9"), 1, FLAT);
        lands("DEPTH is less, not ROUND", rest(six + "149;", "10 100 300 0 9"), 1, SHORT);
        lands("N 0", rest(six + "0;need 0;", "10 100 300 0 0"), 1, DEEP);
        lands("N 300", rest(six + "300;need 300;", "10 100 300 0 0"), 1, DEEP);
        lands("N 300 is more", rest(six + "299;need 300;", "10 100 300 0 0"), 1, SHORT);
        lands("deep stones", rest(six + "600;stones 6;", "10 100 300 0 0"), 1, SHORT);
        lands("deep stones, not ROUND", rest(six + "600;stones 6;", "10 100 300 0 9"), 1, SHORT);
        lands("shallow sand, not ROUND", rest(six + "0;sand 6;", "10 100 300 0 9"), 1, OVER);
        lands("held on", rest("", "10 100 300 1 0"), 200, HANGS);
        lands("slipped", rest("", "100 100 10 0 0"), 6, SLIPPED);
        lands("came back", Check.of("rope 100 999 0;start 80 0;trunk 50;", "10 50 300 0 0"), 200, BACK);
        lands("broke", rest("rope 450 20 0;", "21 50 300 0 0"), 1, BROKEN);
        lands("was dragged", rest("rope 600 300 0;", "10 100 300 1 0"), 1, DRAGGED);
    }

    private static void slippedWherever() {
        Check.says("5 SLIPPED (wherever one LANDS)");
        String[] grounds = {"", "sand 6;", "stones 6;", "need 300;"};
        int[] letGo = {DEEP, OVER, SHORT, SHORT};
        for (int k = 0; k < grounds.length; k++) {
            RopeSwing x = rest(grounds[k], "100 100 10 0 0");
            lands("'" + grounds[k] + "' let go", x, 5, letGo[k], 0, 5, 10, 110);
            lands("'" + grounds[k] + "' slipped", x, 6, SLIPPED, 0, 6, 10, 110);
        }
        lands("not ROUND", rest("", "100 100 10 0 9"), 6, SLIPPED, 0, 6, 10, 110, 90);
    }

    private static void where() {
        Check.says("Where: x of the feet when one LANDS (hundredths / 100), else of the hands then.");
        // a FLIGHT, one who HANGS, BACK, BROKEN, DRAGGED: the last four have the hands' x behind their TICK
        RopeSwing x = Check.of("start 60 0;rope 450 40 0;", "30 100 300 0 0");
        int t = x.lands(0, 200, 2);
        Check.holds("it breaks behind " + t, x.lands(0, 200, 0) == BROKEN && t > 1 && x.holds(0, t, 2) != 0);
        Check.due("where it broke", x.lands(0, 200, 1), x.holds(0, t, 2));
        x = Check.of("start 20 0;rope 600 999 0;", "30 100 300 0 0");
        t = x.lands(0, 200, 2);
        Check.holds("one is dragged behind " + t, x.lands(0, 200, 0) == DRAGGED && x.holds(0, t, 2) != 0);
        Check.due("where", x.lands(0, 200, 1), x.holds(0, t, 2));
        x = Check.of("start 40 600;", "10 100 300 0 0");
        t = 20;
        int u = x.holds(0, t, 1) * 450 / 573;
        int across = u * x.sine(900 - Math.abs(x.holds(0, t, 0) / 100)) / 1000;
        Check.due("where one lands", x.lands(0, t, 1), (100 * x.holds(0, t, 2) + x.lands(0, t, 3) * across) / 100);
        Check.holds("that is not where one let go", x.lands(0, t, 1) != x.holds(0, t, 2));
    }

    // ---- promises 11 to 13

    private static void sine() {
        Check.says("SINE of an angle in tenths of a degree (-1800 .. 1800). OUTSIDE.");
        RopeSwing x = new RopeSwing();
        Check.due("sine(1800)", x.sine(1800), 0);
        Check.due("sine(-1800)", x.sine(-1800), 0);
        for (int a : new int[] {1801, -1801, 1800 + 3600, Integer.MIN_VALUE, Integer.MAX_VALUE}) {
            Check.due("sine(" + a + ")", x.sine(a), OUTSIDE);
        }
    }

    private static void holds() {
        Check.says("Behind TICK t (0 .. 200) of a SWINGER who holds on whatever comes: what = 0 ANGLE, 1 PACE, 2 x, 3 height of the hands, 4 PULL (0 behind TICK 0), 5 LEFT.");
        RopeSwing x = Check.of("start 10 600;rope 450 20 0;trunk 50;", "150 220 10 0 0");
        int[] first = {-10000, 3820, -78, 660 - 450 * 984 / 1000, 0, 1000};
        Check.due("COSINE", x.sine(800), 984);
        for (int k = 0; k < 6; k++) {
            Check.due("holds(0, 0, " + k + ")", x.holds(0, 0, k), first[k]);
        }
        // BROKEN, SLIPS, BACK: one holds on
        Check.due("it breaks at once", x.lands(0, 200, 2), 1);
        int pull = x.holds(0, 200, 4);
        Check.holds("PULL behind TICK 200: " + pull, pull > 20);
        Check.due("LEFT behind TICK 200", x.holds(0, 200, 5), x.holds(0, 199, 5) - pull * 20 / 10);
        Check.holds("LEFT is far below 0", x.holds(0, 200, 5) < -20000);
        Check.due("TICK 201", x.holds(0, 201, 0), OUTSIDE);
        Check.due("TICK -1", x.holds(0, -1, 0), OUTSIDE);
    }

    private static void lands() {
        Check.says("Letting go at a TIME: what = 0 the END, 1 where, 2 the TICK at which one held no more (or it ended), 3 TICKS of FLIGHT, 4 the highest feet in FLIGHT (hundredths / 100; 0 without), 5 TURNED.");
        Check.says("TIMES are TICKS 1 to 200 at which one would let go.");
        RopeSwing x = rest("", "10 100 300 0 9");
        lands("the first TIME", x, 1, FLAT, 0, 1, 10, 110, 90);
        lands("the last TIME", x, 200, FLAT, 0, 200, 10, 110, 90);
        Check.due("TIME 0", x.lands(0, 0, 0), OUTSIDE);
        Check.due("TIME 201", x.lands(0, 201, 0), OUTSIDE);
        // below 0, cut towards 0: feet are highest ahead of the first TICK
        lands("feet below 0", rest("rope 600 300 0;stones 6;", "10 100 300 0 9"), 1, SHORT, 0, 1, 1, -40, 9);
    }

    private static void withoutFlight() {
        Check.says("4 the highest feet in FLIGHT (hundredths / 100; 0 without)");
        lands("BROKEN", rest("rope 450 20 0;", "30 100 300 0 9"), 5, BROKEN, 0, 1, 0, 0, 0);
        lands("DRAGGED", rest("rope 600 300 0;", "10 100 300 0 9"), 5, DRAGGED, 0, 1, 0, 0, 0);
        lands("HANGS", rest("", "10 100 300 1 9"), 200, HANGS, 0, 200, 0, 0, 0);
        RopeSwing x = Check.of("rope 100 999 0;start 80 0;trunk 50;", "10 50 300 0 9");
        lands("BACK", x, 200, BACK, x.lands(0, 200, 1), x.lands(0, 200, 2), 0, 0, 0);
        // what was told of a FLIGHT before is not told again
        RopeSwing y = rest("", "10 100 300 1 9");
        lands("a FLIGHT", y, 1, FLAT, 0, 2, 10, 110, 90);
        lands("none behind it", y, 200, HANGS, 0, 200, 0, 0, 0);
    }

    private static void refused() {
        Check.says("UNKNOWN, OUTSIDE.");
        RopeSwing x = rest("", "10 100 300 0 0");
        for (int s : new int[] {-1, 1, 8, Integer.MIN_VALUE, Integer.MAX_VALUE}) {
            Check.due("holds(" + s + ", 0, 0)", x.holds(s, 0, 0), UNKNOWN);
            Check.due("holds(" + s + ", 201, 6)", x.holds(s, 201, 6), UNKNOWN);
            Check.due("lands(" + s + ", 1, 0)", x.lands(s, 1, 0), UNKNOWN);
            Check.due("lands(" + s + ", 0, 6)", x.lands(s, 0, 6), UNKNOWN);
        }
        for (int k : new int[] {-1, 6, Integer.MIN_VALUE, Integer.MAX_VALUE}) {
            Check.due("holds(0, 0, " + k + ")", x.holds(0, 0, k), OUTSIDE);
            Check.due("lands(0, 1, " + k + ")", x.lands(0, 1, k), OUTSIDE);
        }
        for (int t : new int[] {-1, 201, Integer.MIN_VALUE, Integer.MAX_VALUE}) {
            Check.due("holds(0, " + t + ", 0)", x.holds(0, t, 0), OUTSIDE);
            Check.due("lands(0, " + t + ", 0)", x.lands(0, t, 0), OUTSIDE);
        }
    }
}
