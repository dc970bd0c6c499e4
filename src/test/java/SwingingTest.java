/** Promises 11 to 13: SINE, one who holds on, letting go, FLIGHT, ENDS. */
public final class SwingingTest {
    private static final int HANGS = 0, OVER = 1, DEEP = 2, SHORT = 3, FLAT = 4, SLIPPED = 5, BACK = 6, BROKEN = 7, DRAGGED = 8;

    public static void main(String[] args) {
        sines();
        holding();
        holdingAtRest();
        pulls();
        refusals();
        flightOfOneWhoFalls();
        landingOnWhat();
        roundOrFlat();
        nearlyRound();
        slipping();
        breaking();
        dragged();
        back();
        hanging();
        atTheLastTick();
        anotherBough();
        cellsOfX();
        stopsAreThoseOfHolding();
        beyondUpright();
        Check.end("SwingingTest");
    }

    /** Without a start: one hangs at x 0. */
    private static RopeSwing rest(String words, String... swingers) {
        return Check.of("start 0 0;" + words, swingers);
    }

    private static void lands(String when, RopeSwing x, int s, int time, int... due) {
        for (int k = 0; k < due.length; k++) {
            Check.due(when + ": lands(" + s + ", " + time + ", " + k + ")", x.lands(s, time, k), due[k]);
        }
    }

    private static void sines() {
        RopeSwing x = new RopeSwing();
        // 4000 * a * (1800 - a) / (4050000 - a * (1800 - a))
        int[][] due = {{0, 0}, {1, 1}, {300, 500}, {450, 705}, {600, 864}, {900, 1000}, {1200, 864}, {1500, 500}, {1799, 1}, {1800, 0}};
        for (int[] d : due) {
            Check.due("sine(" + d[0] + ")", x.sine(d[0]), d[1]);
            Check.due("sine(-" + d[0] + ")", x.sine(-d[0]), -d[1]);
        }
        for (int from = 0; from <= 1800; from += 400) {
            RopeSwing y = new RopeSwing();
            for (long a = from; a <= Math.min(1800, from + 399); a++) {
                Check.due("sine(" + a + ")", y.sine((int) a), 4000 * a * (1800 - a) / (4050000 - a * (1800 - a)));
            }
        }
        for (int a : new int[] {1801, -1801, Integer.MAX_VALUE, Integer.MIN_VALUE}) {
            Check.due("sine(" + a + ")", x.sine(a), Check.OUTSIDE);
        }
    }

    private static void holding() {
        RopeSwing x = new RopeSwing();
        Check.swinger(x, "50 150 100 2 0");
        int[] first = {-40000, 636, -288, 317, 0, 1000};
        for (int k = 0; k < 6; k++) {
            Check.due("holds(0, 0, " + k + ")", x.holds(0, 0, k), first[k]);
        }
        // SINE of -400 is -641: PACE is 199 more; SINE of -391 is -629
        Check.due("PACE behind TICK 1", x.holds(0, 1, 1), 636 + 199);
        Check.due("ANGLE behind TICK 1", x.holds(0, 1, 0), -40000 + 835);
        Check.due("x behind TICK 1", x.holds(0, 1, 2), 450 * x.sine(-391) / 1000);
        Check.due("height behind TICK 1", x.holds(0, 1, 3), 660 - 450 * x.sine(900 - 391) / 1000);
        long pull = 50 * (x.sine(900 - 391) / 10 + 835L * 835 * 450 / 80500000) / 100;
        Check.due("PULL behind TICK 1", x.holds(0, 1, 4), pull);
        Check.due("LEFT behind TICK 1", x.holds(0, 1, 5), 1000 - pull * 20 / 100);
        // a KNOT makes LENGTH less, IN HAND A and V count
        x.set(1, 250);
        x.set(3, 30);
        x.set(4, 600);
        Check.due("ANGLE with A 30", x.holds(0, 0, 0), -30000);
        Check.due("PACE with V 600, LENGTH 200", x.holds(0, 0, 1), 2865 * 600 / 200);
        Check.due("x with LENGTH 200", x.holds(0, 0, 2), -100);
        Check.due("height with LENGTH 200", x.holds(0, 0, 3), 660 - 200 * 864 / 1000);
    }

    private static void holdingAtRest() {
        RopeSwing x = rest("rope 300 300 0;", "40 100 80 0 0", "100 100 10 0 0");
        for (int t = 1; t <= 200; t += 199) {
            int[] due = {0, 0, 0, 360, 40, 1000 - 10 * t};
            for (int k = 0; k < 6; k++) {
                Check.due("at rest: holds(0, " + t + ", " + k + ")", x.holds(0, t, k), due[k]);
            }
        }
        Check.due("whatever comes", x.holds(1, 200, 5), 1000 - 200 * 200);
    }

    /** PULL behind every TICK, above the bough too: there it would be below 0. */
    private static void pulls() {
        int none = 0;
        for (int from = 1; from <= 200; from += 100) {
            RopeSwing x = new RopeSwing();
            Check.place(x, "rope 200 999 0;start 80 350;");
            Check.swinger(x, "150 50 300 0 0");
            for (int t = from; t < from + 100; t++) {
                int angle = Math.min(1800, Math.abs(x.holds(0, t, 0) / 100));
                long pace = x.holds(0, t, 1);
                long pull = 150 * (x.sine(900 - angle) / 10 + pace * pace * 200 / 80500000) / 100;
                none += pull < 0 ? 1 : 0;
                Check.due("PULL behind " + t, x.holds(0, t, 4), Math.max(0, pull));
            }
        }
        Check.holds("somewhere there is none", none > 0);
    }

    private static void refusals() {
        RopeSwing x = rest("", "40 100 80 0 0");
        Check.due("holds(1, -1, 9)", x.holds(1, -1, 9), Check.UNKNOWN);
        Check.due("holds(-1, 0, 0)", x.holds(-1, 0, 0), Check.UNKNOWN);
        Check.due("holds(0, -1, 0)", x.holds(0, -1, 0), Check.OUTSIDE);
        Check.due("holds(0, 201, 0)", x.holds(0, 201, 0), Check.OUTSIDE);
        Check.due("holds(0, 0, -1)", x.holds(0, 0, -1), Check.OUTSIDE);
        Check.due("holds(0, 0, 6)", x.holds(0, 0, 6), Check.OUTSIDE);
        Check.due("lands(1, 0, 9)", x.lands(1, 0, 9), Check.UNKNOWN);
        Check.due("lands(-1, 1, 0)", x.lands(-1, 1, 0), Check.UNKNOWN);
        Check.due("lands(0, 0, 0)", x.lands(0, 0, 0), Check.OUTSIDE);
        Check.due("lands(0, 201, 0)", x.lands(0, 201, 0), Check.OUTSIDE);
        Check.due("lands(0, 1, -1)", x.lands(0, 1, -1), Check.OUTSIDE);
        Check.due("lands(0, 1, 6)", x.lands(0, 1, 6), Check.OUTSIDE);
    }

    private static void flightOfOneWhoFalls() {
        // behind k TICKS one has fallen 245 * k * (k - 1) / 2 hundredths: 29400 in 16
        lands("feet at 294", rest("rope 266 300 0;", "40 100 80 3 0"), 0, 5, DEEP, 0, 8, 16, 294, 0);
        lands("feet at 295", rest("rope 265 300 0;", "40 100 80 3 0"), 0, 5, DEEP, 0, 8, 17, 295, 0);
        lands("feet at 288, water 6 lower", rest("rope 272 300 0;months 6;", "40 100 80 0 1"), 0, 1, DEEP, 0, 1, 16, 288, 16);
        lands("feet at 288, water 7 lower", rest("rope 272 300 0;months 7;", "40 100 80 0 1"), 0, 1, DEEP, 0, 1, 17, 288, 17);
        lands("TURNED is left over by 360", rest("rope 266 300 0;", "40 100 80 0 36"), 0, 1, FLAT, 0, 1, 16, 294, 216);
        // feet at 0 at the start of it: the first TICK still counts
        lands("feet at 0", rest("rope 560 300 0;", "40 100 80 0 0"), 0, 1, DEEP, 0, 1, 1, 0, 0);
        // a hundredth above the sand is not at it: that is so behind TICK 14
        RopeSwing x = Check.of("rope 509 999 0;start 36 153;sand 1;", "10 50 300 0 0");
        lands("a hundredth above", x, 0, 41, OVER, 329, 41, 15);
        // up and forward: the highest feet are above both ends
        x = Check.of("", "50 150 100 2 0");
        int u = x.holds(0, 32, 1) * 450 / 573;
        int angle = x.holds(0, 32, 0) / 100;
        int across = u * x.sine(900 - Math.abs(angle)) / 1000;
        int up = u * x.sine(angle) / 1000;
        int y = 100 * (x.holds(0, 32, 3) - 150);
        int at = 100 * x.holds(0, 32, 2);
        int top = y;
        int ticks = 0;
        do {
            at += across;
            y += up;
            up -= 245;
            ticks++;
            top = Math.max(top, y);
        } while (y > 0);
        lands("a flight", x, 0, 30, at / 100 >= 500 ? OVER : DEEP, at / 100, 32, ticks, top / 100, 0);
        Check.holds("it goes up at first", top / 100 > x.holds(0, 32, 3) - 150);
    }

    private static void landingOnWhat() {
        String six = "water 9,9,9,9,9,9,";
        lands("deep enough", rest(six + "150;", "40 100 80 0 0"), 0, 1, DEEP, 0, 1, 10);
        lands("not deep enough", rest(six + "149;", "40 100 80 0 0"), 0, 1, SHORT, 0, 1, 10);
        lands("lower in the month", rest(six + "150;months 1;", "40 100 80 0 0"), 0, 1, SHORT);
        lands("no need", rest(six + "0;need 0;months 50;", "40 100 80 0 0"), 0, 1, DEEP);
        lands("stones", rest(six + "600;stones 6;", "40 100 80 0 0"), 0, 1, SHORT, 0, 1, 10);
        lands("stones, turned", rest("stones 6;", "40 100 80 0 5"), 0, 1, SHORT, 0, 1, 10, 110, 50);
        lands("sand", rest("sand 6;", "40 100 80 0 5"), 0, 1, OVER, 0, 1, 10, 110, 50);
        lands("sand goes ahead of stones", rest("sand 6;stones 6;", "40 100 80 0 0"), 0, 1, OVER);
        lands("shallow and turned", rest("need 201;", "40 100 80 0 5"), 0, 1, SHORT, 0, 1, 10, 110, 50);
        // from 110: 11025 in 10 TICKS; to 5 lower, 13475 in 11; sand stays at 0, stones are at the water's height
        lands("water lower", rest("months 5;", "40 100 80 0 0"), 0, 1, DEEP, 0, 1, 11);
        lands("stones lower", rest("stones 6;months 5;", "40 100 80 0 0"), 0, 1, SHORT, 0, 1, 11);
        lands("sand is not lower", rest("sand 6;months 5;", "40 100 80 0 0"), 0, 1, OVER, 0, 1, 10);
    }

    private static void roundOrFlat() {
        // feet at 257: 25725 in 15 TICKS
        int[][] due = {{0, DEEP, 0}, {1, DEEP, 15}, {2, DEEP, 30}, {3, FLAT, 45}, {21, FLAT, 315}, {22, DEEP, 330}, {23, DEEP, 345}, {24, DEEP, 0}, {26, DEEP, 30}, {27, FLAT, 45}};
        for (int[] d : due) {
            lands("turning " + d[0], rest("rope 303 300 0;", "40 100 80 0 " + d[0]), 0, 1, d[1], 0, 1, 15, 257, d[2]);
        }
    }

    /** A little too much, and a little too little to be ROUND. */
    private static void nearlyRound() {
        RopeSwing x = new RopeSwing();
        Check.place(x, "bough 999;rope 795 999 0;start 76 579;months 300;sand 24;need 0;");
        Check.swinger(x, "10 50 300 0 7");
        Check.due("TICKS", x.lands(0, 39, 3), 47);
        Check.due("TURNED", x.lands(0, 39, 5), 329);
        Check.due("329 is FLAT", x.lands(0, 39, 0), FLAT);
        // a flight of 31 TICKS: 245 * 31 * 30 / 2 is 113925, of 30: 106575
        x = new RopeSwing();
        Check.place(x, "bough 999;rope 100 999 0;start 0 0;months 290;need 0;");
        Check.swinger(x, "10 50 300 0 1");
        Check.due("TICKS of one who falls deep", x.lands(0, 1, 3), 31);
        Check.due("31 is FLAT", x.lands(0, 1, 0), FLAT);
    }

    private static void slipping() {
        // PULL 100, 200 of the grip a TICK: 0 left behind TICK 5, below behind TICK 6
        RopeSwing x = rest("", "100 100 10 0 4", "100 100 10 3 0");
        lands("just held", x, 0, 5, FLAT, 0, 5, 10, 110, 40);
        lands("slips ahead of letting go", x, 0, 6, SLIPPED, 0, 6, 10, 110, 40);
        lands("slips", x, 0, 200, SLIPPED, 0, 6, 10, 110, 40);
        lands("the lag", x, 1, 2, DEEP, 0, 5, 10, 110, 0);
        lands("too long a lag", x, 1, 3, SLIPPED, 0, 6, 10, 110, 0);
        lands("slips over sand", rest("sand 6;", "100 100 10 0 0"), 0, 6, SLIPPED, 0, 6, 10);
        lands("slips over stones", rest("stones 6;", "100 100 10 0 0"), 0, 6, SLIPPED, 0, 6, 10);
    }

    private static void breaking() {
        RopeSwing x = rest("rope 450 50 0;", "50 100 300 0 0", "51 100 300 0 0");
        lands("as strong as it is pulled", x, 0, 50, DEEP, 0, 50, 10);
        lands("stronger", x, 1, 1, BROKEN, 0, 1, 0, 0, 0);
        lands("BROKEN ahead of SLIPPED", rest("rope 450 20 0;", "150 100 10 0 0"), 0, 1, BROKEN, 0, 1, 0, 0, 0);
        x = rest("rope 450 50 10;", "46 100 300 0 0");
        lands("a new rope", x, 0, 1, DEEP);
        x.set(2, 1);
        lands("a year later", x, 0, 1, BROKEN, 0, 1, 0, 0, 0);
    }

    private static void dragged() {
        // hands at 60, feet at -40
        String low = "rope 600 300 0;";
        RopeSwing x = rest(low, "40 100 80 0 5");
        lands("letting go ahead of being dragged", x, 0, 1, DEEP, 0, 1, 1, -40, 5);
        lands("dragged", x, 0, 2, DRAGGED, 0, 1, 0, 0, 0);
        lands("feet at the water", rest(low, "40 60 80 0 0"), 0, 2, DEEP, 0, 2, 1);
        lands("feet a little below", rest(low, "40 61 80 0 0"), 0, 2, DRAGGED, 0, 1, 0);
        lands("water 40 lower", rest(low + "months 40;", "40 100 80 0 0"), 0, 2, DEEP, 0, 2, 1);
        lands("water 39 lower", rest(low + "months 39;", "40 100 80 0 0"), 0, 2, DRAGGED, 0, 1, 0);
        lands("through stones", rest(low + "stones 6;", "40 100 80 0 0"), 0, 2, SHORT, 0, 2, 1);
        lands("through sand", rest(low + "sand 6;", "40 100 80 0 0"), 0, 2, OVER, 0, 2, 1);
    }

    private static void back() {
        RopeSwing x = new RopeSwing();
        Check.place(x, "trunk 50;start 40 0;");
        Check.swinger(x, "10 50 300 0 0");
        // at the start x is beyond the trunk too, but PACE is not below 0
        Check.holds("one starts behind the trunk", x.holds(0, 1, 2) < -50);
        Check.due("letting go at once", x.lands(0, 1, 2), 1);
        int t = 1;
        while (x.holds(0, t, 1) >= 0 || x.holds(0, t, 2) >= -50) {
            t++;
        }
        lands("letting go at the TICK of BACK", x, 0, t, DEEP);
        Check.due("at that TICK", x.lands(0, t, 2), t);
        lands("a TICK later", x, 0, t + 1, BACK, x.holds(0, t, 2), t, 0, 0, 0);
        lands("much later", x, 0, 200, BACK, x.holds(0, t, 2), t, 0, 0, 0);
        Check.place(x, "trunk " + -x.holds(0, t, 2) + ";start 40 0;");
        Check.due("x is not below", x.lands(0, t + 1, 2), t + 1);
    }

    private static void hanging() {
        RopeSwing x = rest("", "10 100 300 0 0", "10 100 300 1 0", "10 100 300 20 9");
        lands("at the last TICK", x, 0, 200, DEEP, 0, 200, 10);
        lands("by the lag", x, 1, 199, DEEP, 0, 200, 10);
        lands("a TICK too late", x, 1, 200, HANGS, 0, 200, 0, 0, 0);
        Check.swinger(x, "100 100 10 0 0");
        lands("another slips", x, 3, 200, SLIPPED, 0, 6);
        lands("behind one who slips", x, 1, 200, HANGS, 0, 200, 0, 0, 0);
        lands("much too late", x, 2, 181, HANGS, 0, 200, 0, 0, 0);
        x.set(3, 10);
        Check.due("the hands' x then", x.lands(1, 200, 1), x.holds(1, 200, 2));
        Check.holds("it is not 0", x.holds(1, 200, 2) != 0);
    }

    /** The stops are looked at behind TICK 200, too, ahead of letting go and of HANGS. */
    private static void atTheLastTick() {
        RopeSwing x = new RopeSwing();
        Check.place(x, "start 64 316;rope 143 999 0;");
        Check.swinger(x, "35 50 171 0 0");
        Check.swinger(x, "35 50 171 1 0");
        Check.holds("LEFT behind TICK 199", x.holds(0, 199, 5) >= 0);
        Check.holds("LEFT behind TICK 200", x.holds(0, 200, 5) < 0);
        lands("slips at TICK 200", x, 0, 200, SLIPPED);
        Check.due("its TICK", x.lands(0, 200, 2), 200);
        lands("slips ahead of HANGS", x, 1, 200, SLIPPED);
        lands("just ahead", x, 1, 198, x.lands(0, 199, 0), x.lands(0, 199, 1), 199);
    }

    /** What was asked of one place tells nothing of the next. */
    private static void anotherBough() {
        RopeSwing x = new RopeSwing();
        Check.swinger(x, "10 50 300 0 0");
        Check.due("height under 660", x.holds(0, 0, 3), 660 - 450 * x.sine(500) / 1000);
        Check.place(x, "bough 999;");
        Check.due("height under 999", x.holds(0, 0, 3), 999 - 450 * x.sine(500) / 1000);
        Check.place(x, "bough 999;rope 900 300 10;");
        Check.due("height with LENGTH 900", x.holds(0, 0, 3), 999 - 900 * x.sine(500) / 1000);
        x.set(3, 80);
        Check.due("ANGLE with A 80", x.holds(0, 0, 0), -80000);
        x.set(4, 300);
        Check.due("PACE with V 300", x.holds(0, 0, 1), 2865 * 300 / 900);
    }

    /** One who starts at an x far back lets go at once: the CELL is that of where one lands. */
    private static void cellsOfX() {
        RopeSwing x = new RopeSwing();
        Check.place(x, "bough 999;rope 900 999 0;start 80 0;water 150,149;");
        Check.swinger(x, "10 50 300 0 0");
        int where = x.lands(0, 1, 1);
        Check.holds("far back: " + where, where < -350);
        Check.due("x below -300 is CELL 0", x.lands(0, 1, 0), 2);
        Check.place(x, "bough 999;rope 900 999 0;start 80 0;water 149,150;");
        Check.due("CELL 0 is not deep enough", x.lands(0, 1, 0), 3);
        Check.place(x, "bough 999;rope 900 999 0;start 80 600;sand 24;stones 23;");
        int far = x.best(0, 0);
        Check.due("none lands in CELL 23 and is GOOD", far == Check.NONE ? 0 : x.lands(0, far, 1) >= 850 ? 1 : 0, 0);
        int stones = 0;
        int most = 0;
        for (int t = 1; t <= 100; t++) {
            stones += x.lands(0, t, 0) == 3 ? 1 : 0;
            most = Math.max(most, x.lands(0, t, 1));
        }
        Check.holds("some land beyond all CELLS: " + most, most >= 900 && stones > 0);
    }

    /** lands() of the last TIME tells the first stop that holds() shows. */
    private static void stopsAreThoseOfHolding() {
        String[] places = {"", "rope 450 90 0;", "rope 600 300 0;", "trunk 50;", "rope 300 300 0;start 80 600;", "months 250;rope 620 300 0;", "start 80 0;trunk 200;"};
        String[] swingers = {"50 150 100 20 0", "20 100 300 20 5", "100 200 150 20 30"};
        for (String p : places) {
            for (String s : swingers) {
                RopeSwing x = new RopeSwing();
                Check.place(x, p);
                Check.swinger(x, s);
                int end = HANGS;
                int t = 0;
                while (end == HANGS && t < 200) {
                    t++;
                    int at = x.holds(0, t, 2);
                    int c = at < -300 ? 0 : Math.min(23, (at + 300) / 50);
                    boolean under = x.holds(0, t, 3) - x.who(0, 1) < -x.now(7);
                    end = x.holds(0, t, 4) > x.now(6) ? BROKEN : x.holds(0, t, 5) < 0 ? SLIPPED
                        : x.holds(0, t, 1) < 0 && at < -x.told(6) ? BACK : under && x.cell(c, 2) == 0 ? DRAGGED : HANGS;
                    // half an object's calls are left for what follows
                    if (t % 40 == 0) {
                        RopeSwing next = new RopeSwing();
                        Check.place(next, p);
                        Check.swinger(next, s);
                        x = next;
                    }
                }
                Check.due("'" + p + "' " + s + " the END", x.lands(0, 200, 0), end);
                Check.due("'" + p + "' " + s + " its TICK", x.lands(0, 200, 2), t);
                if (end != SLIPPED) {
                    Check.due("'" + p + "' " + s + " where", x.lands(0, 200, 1), x.holds(0, t, 2));
                }
            }
        }
    }

    /** With so short a rope and so much run one goes over the bough: angles beyond 1800 count as 1800. */
    private static void beyondUpright() {
        RopeSwing x = new RopeSwing();
        Check.place(x, "rope 100 999 0;start 0 600;");
        x.set(1, 50);
        Check.swinger(x, "10 50 300 0 0");
        Check.due("PACE", x.holds(0, 0, 1), 34380);
        Check.holds("ANGLE is beyond 180 degrees", x.holds(0, 200, 0) > 180000);
        Check.due("PACE stays", x.holds(0, 200, 1), x.holds(0, 199, 1));
        Check.due("x", x.holds(0, 200, 2), 0);
        Check.due("height", x.holds(0, 200, 3), 660 + 50);
        int pace = x.holds(0, 200, 1);
        Check.due("PULL", x.holds(0, 200, 4), Math.max(0, 10 * (-100 + (long) pace * pace * 50 / 80500000) / 100));
    }
}
