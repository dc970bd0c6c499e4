/** Promises 17 to 24: STRONG, HEAVY, MAY, MONTHS, THE BEST rope, TURN, FILM, AGE. */
public final class MayTest {
    public static void main(String[] args) {
        strong();
        heavy();
        may();
        months();
        rope("", "50 150 100 2 0");
        rope("bough 400;start 20 50;stones 7,8;sand 12;need 170;", "40 120 60 1 4");
        rope("rope 100 20 0;", "30 100 100 0 0");
        rope("bough 988;start 78 10;stones 5;sand 8;", "75 79 203 2 36");
        rope("bough 690;start 69 386;stones 6;sand 23;", "43 168 72 2 1");
        Check.due("the longest rope", Check.of("bough 988;start 78 10;stones 5;sand 8;", "75 79 203 2 36").rope(0, 0), 900);
        Check.due("the shortest LENGTH", Check.of("bough 690;start 69 386;stones 6;sand 23;", "43 168 72 2 1").rope(0, 1), 50);
        onlyTheLastTime();
        turn();
        film();
        age();
        refusals();
        Check.end("MayTest");
    }

    private static void strong() {
        // at rest 2000 / grip is lost a TICK
        RopeSwing x = Check.of("start 0 0;", "100 100 10 0 0", "10 100 300 0 0");
        int[][] due = {{1, 10}, {5, 10}, {6, 12}, {10, 20}, {11, 22}, {100, 182}, {142, 251}, {143, 286}, {144, 286}, {166, 286}, {167, Check.NONE}, {200, Check.NONE}};
        for (int[] d : due) {
            int grip = 10;
            while (grip <= 300 && 1000 - d[0] * (2000 / grip) < 0) {
                grip++;
            }
            Check.due("the test's own grip for " + d[0], grip > 300 ? Check.NONE : grip, d[1]);
            Check.due("strong(0, " + d[0] + ")", x.strong(0, d[0]), d[1]);
        }
        Check.due("the greatest grip", Check.of("start 64 573;", "130 100 10 0 0").strong(0, 72), 300);
        Check.due("a weaker one slips", Check.of("start 64 573;", "130 100 299 0 0").holds(0, 72, 5) < 0 ? 1 : 0, 1);
        // 200 / grip a TICK
        Check.due("strong(1, 200)", x.strong(1, 200), 34);
        x = Check.of("", "20 100 25 6 12");
        int t = 40;
        int grip = x.strong(0, t);
        Check.due("one who is that strong", left(grip, t) >= 0 ? 1 : 0, 1);
        Check.due("one who is less strong", left(grip - 1, t) < 0 ? 1 : 0, 1);
    }

    private static int left(int grip, int t) {
        return Check.of("", "20 100 " + grip + " 6 12").holds(0, t, 5);
    }

    private static void heavy() {
        Check.due("150 at most", Check.of("start 0 0;").heavy(), 150);
        Check.due("as much as it holds", Check.of("start 0 0;rope 450 100 0;").heavy(), 100);
        Check.due("the least rope", Check.of("start 0 0;rope 450 20 0;").heavy(), 20);
        RopeSwing x = Check.of("start 0 0;rope 450 20 50;");
        x.set(2, 1);
        Check.due("a year", x.heavy(), 10);
        x.set(2, 2);
        Check.due("two years", x.heavy(), Check.NONE);
        // PULL on 100 behind TICK 0 is 130, behind no later one more than 129
        Check.due("TICK 0 does not count", Check.of("rope 558 129 0;start 0 410;").heavy(), 100);
        // 115 behind TICK 1, then 114
        Check.due("TICK 1 counts", Check.of("rope 131 114 0;start 3 138;").heavy(), 99);
        // 243 behind TICK 200, 242 ahead of it
        Check.due("TICK 200 counts", Check.of("rope 721 242 0;start 62 503;").heavy(), 99);
        x = Check.of("rope 450 100 0;", "50 100 10 0 0");
        int heavy = x.heavy();
        Check.holds("a swing pulls more: " + heavy, heavy >= 10 && heavy < 100);
        Check.due("the heaviest", most("rope 450 100 0;", heavy) <= 100 ? 1 : 0, 1);
        Check.due("one heavier", most("rope 450 100 0;", heavy + 1) > 100 ? 1 : 0, 1);
    }

    private static int most(String words, int weight) {
        RopeSwing x = Check.of(words, weight + " 50 10 0 0");
        int most = 0;
        for (int t = 1; t <= 200; t++) {
            most = Math.max(most, x.holds(0, t, 4));
        }
        return most;
    }

    private static void may() {
        RopeSwing x = Check.of("start 0 0;", "100 100 10 5 0", "100 100 10 4 0", "10 100 300 0 5", "10 100 300 0 0");
        Check.due("may", x.may(), 2 + 8);
        x.set(2, 40);
        Check.due("may with an old rope", x.may(), x.now(6) >= 10 ? 8 : 0);
        Check.due("may of nobody", Check.of("").may(), 0);
        x = Check.of("start 0 0;sand 6;", "10 50 300 0 5", "10 50 300 0 5", "10 50 300 0 5", "10 50 300 0 5", "10 50 300 0 5", "10 50 300 0 5", "10 50 300 0 5", "10 50 300 0 5");
        Check.due("all eight", x.may(), 255);
    }

    /** Only from TIME 200 one lands in CELL 2, and that alone has no stones. */
    private static void onlyTheLastTime() {
        RopeSwing x = Check.of("rope 331 999 0;start 11 92;sand 24;trunk 600;need 0;stones 0,1,3,4,5,6,7,8,9,10,11,12,13,14,15,16,17,18,19,20,21,22,23;", "10 50 300 0 0");
        Check.due("TIME 200 is GOOD", x.lands(0, 200, 0), 2);
        Check.due("no other", x.wide(0, 2), 1);
        Check.due("farthest", x.best(0, 0), 200);
        Check.due("may", x.may(), 1);
        Check.due("months", x.months(0), 4095);
        Check.due("age", x.age(0), Check.NONE);
    }

    private static void months() {
        RopeSwing x = Check.of("start 0 0;months 51,50,0,300;", "10 100 300 0 0", "10 100 300 0 0");
        Check.due("months", x.months(0), 4095 - 1 - 8);
        x.set(0, 3);
        Check.due("whatever MONTH is now", x.months(1), 4095 - 1 - 8);
        Check.due("MONTH stays", x.now(0), 3);
        Check.due("none", Check.of("start 0 0;stones 6;", "10 100 300 0 0").months(0), 0);
        Check.due("all", Check.of("start 0 0;", "10 100 300 0 0").months(0), 4095);
    }

    /** All ropes and KNOTS are told and set, one after the other. */
    private static void rope(String words, String swinger) {
        RopeSwing y = Check.of(words, swinger);
        int s = y.told(2);
        int loss = y.told(3);
        String rest = words.startsWith("rope") ? "" : words;
        int longest = -1;
        int rope = 0;
        int knot = 0;
        for (int l = 100; l <= 900; l += 50) {
            RopeSwing x = Check.of(rest + "rope " + l + " " + s + " " + loss + ";", swinger);
            x.set(2, 2);
            for (int k = 0; k <= 300 && l - k >= 50; k += 50) {
                x.set(1, k);
                int wide = x.wide(0, 0);
                if (wide > longest) {
                    longest = wide;
                    rope = l;
                    knot = k;
                }
            }
        }
        y.set(2, 2);
        y.set(1, 30);
        String when = "rope of '" + words + "'";
        Check.due(when + " L", y.rope(0, 0), rope);
        Check.due(when + " KNOT", y.rope(0, 1), knot);
        Check.due(when + " row", y.rope(0, 2), longest);
        Check.due(when + " KNOT now", y.now(1), 30);
        Check.due(when + " L told", y.told(1), words.startsWith("rope") ? 100 : 450);
    }

    private static void turn() {
        RopeSwing x = Check.of("start 0 0;", "100 100 10 0 5", "100 100 10 3 36");
        Check.due("FLAT by its own turning", x.lands(0, 5, 0), 4);
        Check.due("turn(0, 5)", x.turn(0, 5), 0);
        Check.due("slips", x.turn(0, 6), Check.NONE);
        Check.due("the lag", x.turn(1, 2), 0);
        Check.due("too long a lag", x.turn(1, 3), Check.NONE);
        Check.due("its turning stays", x.lands(0, 5, 5), 50);
        Check.due("stones", Check.of("start 0 0;stones 6;", "10 100 300 0 0").turn(0, 1), Check.NONE);
        Check.due("sand is not DEEP", Check.of("start 0 0;sand 6;", "10 100 300 0 0").turn(0, 1), Check.NONE);
    }

    private static void film() {
        // with A 0, ANGLE behind TICK 1 is 2865 * V / 450
        RopeSwing x = Check.of("start 0 77;");
        Check.due("film(1, 3)", x.film(1, 3), 472);
        Check.due("film(1, 180)", x.film(1, 180), 472);
        Check.due("film(1, 2)", x.film(1, 2), 315);
        Check.due("film(1, 1)", x.film(1, 1), 158);
        Check.due("film(1, 0)", x.film(1, 0), 0);
        Check.due("film(1, -180)", x.film(1, -180), 0);
        Check.due("V stays", x.now(4), 77);
        x = Check.of("start 0 77;rope 100 300 10;");
        x.set(1, 50);
        Check.due("LENGTH 50: 57 * V", x.film(1, 34), (34000 * 50 + 2864) / 2865);
        x = Check.of("start 40 100;");
        int run = x.film(10, 0);
        Check.due("film(10, 0)", run, 484);
        Check.swinger(x, "50 100 100 0 0");
        x.set(4, run);
        int near = Math.abs(x.holds(0, 10, 0) / 1000);
        x.set(4, run - 1);
        Check.holds("a smaller run is not as near", Math.abs(x.holds(0, 10, 0) / 1000) > near);
        for (int v = run + 1; v <= 600; v += 29) {
            x.set(4, v);
            Check.holds("a run of " + v + " is not nearer", Math.abs(x.holds(0, 10, 0) / 1000) >= near);
        }
    }

    private static void age() {
        // 100, 90, 81
        Check.due("two years", Check.of("start 0 0;rope 450 100 10;", "85 100 300 0 0").age(0), 2);
        Check.due("a year", Check.of("start 0 0;rope 450 100 10;", "91 100 300 0 0").age(0), 1);
        Check.due("not even new", Check.of("start 0 0;rope 450 100 10;", "101 100 300 0 0").age(0), 0);
        // a hundredth a year, cut, at least 1 above 99: 149 are left in the year 40
        Check.due("the last year", Check.of("start 0 0;rope 450 189 1;", "150 100 300 0 0").age(0), 40);
        Check.due("a year more", Check.of("start 0 0;rope 450 190 1;", "150 100 300 0 0").age(0), Check.NONE);
        Check.due("for ever", Check.of("start 0 0;rope 450 100 0;", "85 100 300 0 0").age(0), Check.NONE);
        Check.due("never good", Check.of("start 0 0;stones 6;", "85 100 300 0 0").age(0), 0);
        RopeSwing x = Check.of("start 0 0;rope 450 100 10;", "85 100 300 0 0");
        x.set(2, 30);
        Check.due("whatever YEARS are now", x.age(0), 2);
        Check.due("YEARS stay", x.now(2), 30);
    }

    private static void refusals() {
        RopeSwing x = Check.of("", "50 150 100 2 0");
        Check.due("strong(1, 0)", x.strong(1, 0), Check.UNKNOWN);
        Check.due("strong(0, 0)", x.strong(0, 0), Check.OUTSIDE);
        Check.due("strong(0, 201)", x.strong(0, 201), Check.OUTSIDE);
        Check.due("months(1)", x.months(1), Check.UNKNOWN);
        Check.due("months(-1)", x.months(-1), Check.UNKNOWN);
        Check.due("rope(1, 9)", x.rope(1, 9), Check.UNKNOWN);
        Check.due("rope(0, 3)", x.rope(0, 3), Check.OUTSIDE);
        Check.due("rope(0, -1)", x.rope(0, -1), Check.OUTSIDE);
        Check.due("turn(-1, 0)", x.turn(-1, 0), Check.UNKNOWN);
        Check.due("turn(0, 0)", x.turn(0, 0), Check.OUTSIDE);
        Check.due("turn(0, 201)", x.turn(0, 201), Check.OUTSIDE);
        Check.due("film(0, 0)", x.film(0, 0), Check.OUTSIDE);
        Check.due("film(201, 0)", x.film(201, 0), Check.OUTSIDE);
        Check.due("film(1, -181)", x.film(1, -181), Check.OUTSIDE);
        Check.due("film(1, 181)", x.film(1, 181), Check.OUTSIDE);
        Check.due("age(1)", x.age(1), Check.UNKNOWN);
        Check.due("age(-1)", x.age(-1), Check.UNKNOWN);
    }
}
