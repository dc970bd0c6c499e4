/** Promises 25 to 31: HARMED, ENOUGH, THE SEED, AFTERNOONS, ENDS, IMAGES. */
public final class MeasuresTest {
    public static void main(String[] args) {
        weights();
        lowWater();
        aRunOfNone();
        aNewRope();
        aWordSaid();
        theFarthestStays();
        enough();
        seeds();
        afternoons();
        images();
        Check.end("MeasuresTest");
    }

    private static void weights() {
        // over stones all come to harm
        RopeSwing x = Check.of("start 0 0;stones 6;", "29 100 300 0 0", "30 100 300 0 0", "90 100 300 0 0", "91 100 300 0 0");
        Check.due("harmed(0)", x.harmed(0), 15);
        Check.due("harmed(1)", x.harmed(1), 14);
        Check.due("harmed(2)", x.harmed(2), 7);
        Check.due("harmed(3)", x.harmed(3), 6);
        Check.due("harmed(31)", x.harmed(31), 6);
        Check.due("harmed(32)", x.harmed(32), 15);
        Check.due("harmed(63)", x.harmed(63), 6);
        Check.due("harmed(-1)", x.harmed(-1), Check.OUTSIDE);
        Check.due("harmed(64)", x.harmed(64), Check.OUTSIDE);
        Check.due("enough", x.enough(), Check.NONE);
        Check.due("nobody is told", Check.of("stones 6;").harmed(0), 0);
    }

    private static void lowWater() {
        RopeSwing x = Check.of("start 0 0;need 190;months 0,49,50;", "20 100 300 0 0", "50 100 300 0 0");
        Check.due("high water", x.harmed(0), 0);
        x.set(0, 1);
        Check.due("49 lower", x.harmed(32), 3);
        Check.due("49 lower: enough", x.enough(), Check.NONE);
        x.set(0, 2);
        Check.due("50 lower", x.harmed(0), 3);
        Check.due("50 lower, nobody swings", x.harmed(32), 0);
        Check.due("50 lower: enough", x.enough(), 32);
    }

    private static void aRunOfNone() {
        // with a run one comes away from the stones under the bough
        RopeSwing x = Check.of("start 0 600;stones 6;", "50 100 300 0 0");
        Check.holds("far from the stones", x.lands(0, x.best(0, 0), 1) >= 50);
        Check.due("harmed(0)", x.harmed(0), 0);
        Check.due("a run of 0 ends on the stones", x.harmed(4), 1);
        Check.due("V stays", x.now(4), 600);
        Check.due("enough", x.enough(), 0);
        // a run of 0 is good at that TIME, the least run would not be
        String words = "rope 503 200 0;start 2 126;stones 6;";
        x = Check.of(words, "53 50 300 0 0");
        int time = x.best(0, 0);
        x.set(4, 1);
        Check.due("a run of 1 ends on the stones", x.lands(0, time, 0), 3);
        Check.due("a run of 0", Check.of(words, "53 50 300 0 0").harmed(4), 0);
        // too much run: the rope breaks
        x = Check.of("start 0 600;rope 450 50 0;", "45 100 300 0 0");
        Check.due("the rope breaks", x.lands(0, 20, 0), 7);
        Check.due("harmed(0)", x.harmed(0), 1);
        Check.due("harmed(4)", x.harmed(4), 0);
        Check.due("harmed(16)", x.harmed(16), 1);
        Check.due("enough", x.enough(), 4);
    }

    private static void aNewRope() {
        // 100, 90, 81
        RopeSwing x = Check.of("start 0 0;rope 450 100 10;", "85 100 300 0 0", "95 100 300 0 0");
        Check.due("new", x.harmed(0), 0);
        x.set(2, 1);
        Check.due("a year", x.harmed(0), 2);
        x.set(2, 2);
        Check.due("two years", x.harmed(0), 3);
        Check.due("a new rope", x.harmed(8), 0);
        Check.due("enough", x.enough(), 8);
        Check.due("YEARS stay", x.now(2), 2);
    }

    private static void aWordSaid() {
        // one slips behind TICK 21; without a GOOD TIME it is TIME 20
        RopeSwing x = Check.of("start 0 0;", "100 100 40 20 0");
        Check.due("no GOOD TIME", x.best(0, 0), Check.NONE);
        Check.due("TICK 20 is GOOD", x.odds(0, 1, 0), 0);
        Check.due("harmed(0)", x.harmed(0), 1);
        Check.due("a word", x.harmed(16), 0);
        Check.due("enough: nobody above 90", x.enough(), 2);
        Check.due("the lag stays", x.who(0, 3), 20);
        // one slips behind TICK 20: a word at TIME 20 is too late
        x = Check.of("start 0 0;", "105 100 40 20 0");
        Check.due("a word too late", x.harmed(16), 1);
        Check.due("enough for both", Check.of("start 0 0;", "90 100 36 20 0").enough(), 16);
    }

    /** The TIME is that of what is so without MEASURES, also where another would be good with them. */
    private static void theFarthestStays() {
        RopeSwing x = Check.of("start 60 300;water 0,50,100,150,200,250,300,300,300,250,200,150;stones 9,10;sand 14;", "60 160 120 1 0", "25 110 60 3 10", "110 190 200 0 3");
        for (int measures = 0; measures < 32; measures += 4) {
            RopeSwing y = Check.of("start 60 300;water 0,50,100,150,200,250,300,300,300,250,200,150;stones 9,10;sand 14;",
                "60 160 120 " + ((measures & 16) != 0 ? 0 : 1) + " 0", "25 110 60 " + ((measures & 16) != 0 ? 0 : 3) + " 10", "110 190 200 0 3");
            x.set(2, 5);
            y.set(2, (measures & 8) != 0 ? 0 : 5);
            y.set(4, (measures & 4) != 0 ? 0 : 300);
            int due = 0;
            for (int s = 0; s < 3; s++) {
                int time = x.best(s, 0) == Check.NONE ? 20 : x.best(s, 0);
                int end = y.lands(s, time, 0);
                due |= end == 1 || end == 2 ? 0 : 1 << s;
            }
            Check.due("harmed(" + measures + ")", x.harmed(measures), due);
        }
    }

    private static void enough() {
        Check.due("nobody", Check.of("").enough(), 0);
        RopeSwing x = Check.of("start 0 0;stones 6;", "29 100 300 0 0");
        Check.due("one too light", x.enough(), 1);
        Check.swinger(x, "91 100 300 0 0");
        Check.due("one too heavy, too", x.enough(), 3);
        x = Check.of("start 0 0;stones 6;months 50;", "29 100 300 0 0");
        Check.due("of like ones the least", x.enough(), 1);
        Check.swinger(x, "91 100 300 0 0");
        Check.due("fewest", x.enough(), 32);
        // a light one over a rope that broke of age, a late one: none of them alone is enough
        x = Check.of("start 0 0;rope 450 100 10;", "85 100 300 0 0", "90 100 36 20 0");
        x.set(2, 2);
        Check.due("two of them", x.harmed(0), 3);
        Check.due("a rope and a word", x.enough(), 8 + 16);
    }

    private static void seeds() {
        RopeSwing x = Check.of("", "50 150 100 2 0");
        Check.due("first", x.seed(2147483647), 0);
        Check.due("greatest", x.seed(0), 2147483647);
        Check.due("below", x.seed(-1), Check.OUTSIDE);
        Check.due("least", x.seed(Integer.MIN_VALUE), Check.OUTSIDE);
        Check.due("is as it was", x.seed(0), 0);
        x.afternoon(1);
        // 0, 12345, 1406932606, 654583775, 1449466924
        Check.due("two draws", x.seed(0), 1406932606);
        x.afternoon(2);
        Check.due("four draws", x.seed(0), 1449466924);
        x.afternoon(0);
        x.afternoon(41);
        Check.due("refused: no draw", x.seed(0), 0);
    }

    private static void afternoons() {
        RopeSwing x = new RopeSwing();
        Check.due("OUTSIDE ahead of NOT", x.afternoon(0), Check.OUTSIDE);
        Check.due("41", x.afternoon(41), Check.OUTSIDE);
        Check.due("nobody", x.afternoon(40), Check.NOT);
        String words = "start 60 300;water 0,50,100,150,200,250,300,300,300,250,200,150;stones 9,10;sand 14;trunk 100;";
        x = Check.of(words, "60 160 120 1 0", "25 110 60 3 10", "110 190 200 0 3");
        RopeSwing y = Check.of(words, "60 160 120 1 0", "25 110 60 3 10", "110 190 200 0 3");
        long seed = 4711;
        x.seed(4711);
        int[] ends = new int[9];
        for (int n = 1; n <= 40; n += 13) {
            int good = 0;
            for (int i = 0; i < n; i++) {
                seed = (seed * 1103515245L + 12345L) % 2147483648L;
                int s = (int) (seed / 65536 % 3);
                seed = (seed * 1103515245L + 12345L) % 2147483648L;
                int time = 1 + (int) (seed / 65536 % 60);
                int end = y.lands(s, time, 0);
                ends[end]++;
                good += end == 1 || end == 2 ? 1 : 0;
            }
            Check.due("afternoon(" + n + ")", x.afternoon(n), good);
        }
        int kinds = 0;
        for (int e = 0; e < 9; e++) {
            Check.due("ends(" + e + ")", x.ends(e), ends[e]);
            kinds += ends[e] > 0 ? 1 : 0;
        }
        Check.holds("several ENDS came", kinds > 2);
        Check.due("the seed", x.seed(0), seed);
        Check.due("ends(-1)", x.ends(-1), Check.OUTSIDE);
        Check.due("ends(9)", x.ends(9), Check.OUTSIDE);
    }

    private static void images() {
        RopeSwing x = Check.of("start 0 0;rope 450 300 10;months 0,1,2;", "10 100 300 0 0");
        Check.due("keep(-1)", x.keep(-1), Check.UNKNOWN);
        Check.due("keep(2)", x.keep(2), Check.UNKNOWN);
        Check.due("goBack(-1)", x.goBack(-1), Check.UNKNOWN);
        Check.due("goBack(2)", x.goBack(2), Check.UNKNOWN);
        Check.due("goBack(0)", x.goBack(0), Check.NOT);
        int[] one = {1, 300, 3, 4, 5};
        for (int k = 0; k < 5; k++) {
            x.set(k, one[k]);
        }
        x.afternoon(2);
        x.seed(17);
        int deep = x.ends(2);
        int short1 = x.ends(3);
        Check.due("keep(0)", x.keep(0), 1);
        Check.due("goBack(1)", x.goBack(1), Check.NOT);
        for (int k = 0; k < 5; k++) {
            x.set(k, 2);
        }
        x.afternoon(9);
        x.seed(18);
        Check.due("keep(1)", x.keep(1), 1);
        int sum = 0;
        for (int e = 0; e < 9; e++) {
            sum += x.ends(e);
        }
        Check.due("eleven ENDS", sum, 11);
        Check.due("goBack(0)", x.goBack(0), 1);
        for (int k = 0; k < 5; k++) {
            Check.due("behind goBack(0): now(" + k + ")", x.now(k), one[k]);
        }
        Check.due("ENDS of then", x.ends(2), deep);
        Check.due("ENDS of then", x.ends(3), short1);
        Check.due("THE SEED of then", x.seed(5), 17);
        Check.due("goBack(1)", x.goBack(1), 1);
        Check.due("THE SEED of the other", x.seed(5), 18);
        Check.due("KNOT of the other", x.now(1), 2);
        // what is so moves on, the IMAGE stays
        x.set(1, 9);
        x.afternoon(4);
        x.goBack(1);
        Check.due("the IMAGE stays", x.now(1), 2);
        // another place, a shorter rope: KNOT is held, all else is that of the IMAGE
        Check.place(x, "rope 120 300 10;start 33 44;");
        Check.due("goBack(0) with a shorter rope", x.goBack(0), 1);
        int[] held = {1, 70, 3, 4, 5, 50};
        for (int k = 0; k < 6; k++) {
            Check.due("with a shorter rope: now(" + k + ")", x.now(k), held[k]);
        }
        Check.due("the place is as it is", x.told(1), 120);
        // the IMAGE itself is not held
        Check.place(x, "rope 400 300 10;");
        x.goBack(0);
        Check.due("with a longer rope", x.now(1), 300);
        // an IMAGE is written over
        x.set(0, 7);
        x.keep(0);
        x.set(0, 8);
        x.goBack(0);
        Check.due("written over", x.now(0), 7);
    }
}
