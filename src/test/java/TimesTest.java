/** Promises 14 to 16: THE FARTHEST, THE HIGHEST, WIDE, ODDS. */
public final class TimesTest {
    public static void main(String[] args) {
        atRest();
        nobodyIsGood();
        allTimes("", "50 150 100 2 0");
        allTimes("start 60 300;water 0,50,100,150,200,250,300,300,300,250,200,150;stones 9,10;sand 14;", "60 160 120 1 0");
        allTimes("start 60 300;stones 8;sand 12;need 100;", "110 190 300 0 7");
        allTimes("start 80 600;rope 300 300 0;", "30 90 300 3 33");
        rowsAlike();
        odds();
        refusals();
        Check.end("TimesTest");
    }

    private static void curve(String when, RopeSwing x, int... due) {
        Check.due(when + ": farthest", x.best(0, 0), due[0]);
        Check.due(when + ": highest", x.best(0, 1), due[1]);
        Check.due(when + ": longest row", x.wide(0, 0), due[2]);
        Check.due(when + ": its first", x.wide(0, 1), due[3]);
        Check.due(when + ": all", x.wide(0, 2), due[4]);
    }

    private static void atRest() {
        // one slips behind TICK 6; all TIMES are alike, so the earliest is the best
        curve("five TIMES", Check.of("start 0 0;", "100 100 10 0 0"), 1, 1, 5, 1, 5);
        curve("a lag of two", Check.of("start 0 0;", "100 100 10 2 0"), 1, 1, 3, 1, 3);
        curve("a lag of four", Check.of("start 0 0;", "100 100 10 4 0"), 1, 1, 1, 1, 1);
        curve("all", Check.of("start 0 0;", "10 100 300 0 0"), 1, 1, 200, 1, 200);
        curve("all but the last", Check.of("start 0 0;", "10 100 300 1 0"), 1, 1, 199, 1, 199);
        curve("on sand", Check.of("start 0 0;sand 6;", "10 100 300 20 9"), 1, 1, 180, 1, 180);
    }

    private static void nobodyIsGood() {
        int none = Check.NONE;
        curve("too long a lag", Check.of("start 0 0;", "100 100 10 5 0"), none, none, 0, none, 0);
        curve("stones", Check.of("start 0 0;stones 6;", "10 100 300 0 0"), none, none, 0, none, 0);
        curve("flat", Check.of("start 0 0;", "10 100 300 0 5"), none, none, 0, none, 0);
        curve("broken", Check.of("start 0 0;rope 450 20 0;", "30 100 300 0 0"), none, none, 0, none, 0);
    }

    /** best() and wide() are what lands() of all TIMES tells. */
    private static void allTimes(String words, String swinger) {
        int farthest = Check.NONE;
        int highest = Check.NONE;
        int most = 0;
        int top = 0;
        int all = 0;
        boolean[] good = new boolean[202];
        RopeSwing x = null;
        for (int t = 1; t <= 200; t++) {
            if (t % 80 == 1) {
                x = Check.of(words, swinger);
            }
            int end = x.lands(0, t, 0);
            good[t] = end == 1 || end == 2;
            if (good[t]) {
                all++;
                int where = x.lands(0, t, 1);
                int high = x.lands(0, t, 4);
                if (farthest == Check.NONE || where > most) {
                    farthest = t;
                    most = where;
                }
                if (highest == Check.NONE || high > top) {
                    highest = t;
                    top = high;
                }
            }
        }
        int longest = 0;
        int first = Check.NONE;
        for (int t = 1; t <= 200; t++) {
            int n = 0;
            while (good[t + n]) {
                n++;
            }
            if (n > longest) {
                longest = n;
                first = t;
            }
        }
        Check.holds("'" + words + "' has GOOD TIMES", all > 0);
        curve("'" + words + "' " + swinger, Check.of(words, swinger), farthest, highest, longest, first, all);
    }

    /** Of like rows the first. */
    private static void rowsAlike() {
        rowsAlike("start 30 467;stones 9;", 15, 13, 13);
        rowsAlike("start 55 147;stones 11;", 14, 15, 22);
        rowsAlike("start 20 410;stones 12;", 33, 6, 36);
        rowsAlike("start 27 16;stones 6;", 34, 12, 56);
    }

    private static void rowsAlike(String words, int turning, int longest, int first) {
        RopeSwing x = Check.of(words, "20 100 300 0 " + turning);
        int like = 0;
        int row = 0;
        for (int t = 1; t <= 200; t++) {
            int end = x.lands(0, t, 0);
            row = end == 1 || end == 2 ? row + 1 : 0;
            like += row == longest ? 1 : 0;
        }
        Check.holds("'" + words + "' has several rows of " + longest, like > 1);
        Check.due("'" + words + "' longest", x.wide(0, 0), longest);
        Check.due("'" + words + "' first", x.wide(0, 1), first);
    }

    private static void odds() {
        RopeSwing x = Check.of("start 0 0;", "100 100 10 1 0");
        // good are the TICKS 1 to 5
        Check.due("at once", x.odds(0, 4, 0), 1000000);
        Check.due("a half", x.odds(0, 4, 1), 500000);
        Check.due("a third", x.odds(0, 4, 2), 333333);
        Check.due("two of three", x.odds(0, 3, 2), 666666);
        Check.due("four of 41", x.odds(0, 1, 40), 4000000 / 41);
        Check.due("none", x.odds(0, 5, 40), 0);
        Check.due("none at 200", x.odds(0, 200, 40), 0);
        x = Check.of("start 0 0;", "10 100 300 0 0");
        Check.due("HANGS behind 200", x.odds(0, 199, 3), 500000);
    }

    private static void refusals() {
        RopeSwing x = Check.of("", "50 150 100 2 0");
        Check.due("best(1, 9)", x.best(1, 9), Check.UNKNOWN);
        Check.due("best(0, 2)", x.best(0, 2), Check.OUTSIDE);
        Check.due("best(0, -1)", x.best(0, -1), Check.OUTSIDE);
        Check.due("wide(-1, 9)", x.wide(-1, 9), Check.UNKNOWN);
        Check.due("wide(0, 3)", x.wide(0, 3), Check.OUTSIDE);
        Check.due("wide(0, -1)", x.wide(0, -1), Check.OUTSIDE);
        Check.due("odds(1, 0, 99)", x.odds(1, 0, 99), Check.UNKNOWN);
        Check.due("odds(0, 0, 0)", x.odds(0, 0, 0), Check.OUTSIDE);
        Check.due("odds(0, 201, 0)", x.odds(0, 201, 0), Check.OUTSIDE);
        Check.due("odds(0, 1, -1)", x.odds(0, 1, -1), Check.OUTSIDE);
        Check.due("odds(0, 1, 41)", x.odds(0, 1, 41), Check.OUTSIDE);
    }
}
