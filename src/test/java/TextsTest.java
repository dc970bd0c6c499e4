/** Promises 1 to 10: THE PLACE, SWINGERS, FAULTS, what is IN HAND. */
public final class TextsTest {
    private static final String FULL_PLACE = "bough 999;rope 900 999 99;start 80 600;trunk 600;need 300;water 1,2,3;stones 0,23;sand 24;months 300,7;";

    public static void main(String[] args) {
        aNewObject();
        feeding();
        places();
        soundPlaces();
        boundsOfPlaces();
        faultsOfPlaces();
        faultsOfLists();
        swingers();
        faultsOfSwingers();
        faultStays();
        toldAndCells();
        setAndNow();
        Check.end("TextsTest");
    }

    private static void told(String when, RopeSwing x, int... due) {
        for (int k = 0; k < due.length; k++) {
            Check.due(when + ": told(" + k + ")", x.told(k), due[k]);
        }
    }

    private static void now(String when, RopeSwing x, int... due) {
        for (int k = 0; k < due.length; k++) {
            Check.due(when + ": now(" + k + ")", x.now(k), due[k]);
        }
    }

    private static void aNewObject() {
        RopeSwing x = new RopeSwing();
        told("new", x, 660, 450, 300, 10, 40, 100, 400, 150, 16, 0, 0);
        now("new", x, 0, 0, 0, 40, 100, 450, 300, 0);
        for (int c = 0; c < 24; c++) {
            Check.due("new: cell(" + c + ", 0)", x.cell(c, 0), 200);
            Check.due("new: cell(" + c + ", 1)", x.cell(c, 1), 200);
            Check.due("new: cell(" + c + ", 2)", x.cell(c, 2), c < 16 ? 0 : 2);
        }
        Check.due("new: fault()", x.fault(), Check.NONE);
        Check.due("new: seed", x.seed(0), 0);
        for (int e = 0; e < 9; e++) {
            Check.due("new: ends(" + e + ")", x.ends(e), 0);
        }
        Check.due("new: goBack(0)", x.goBack(0), Check.NOT);
        Check.due("new: goBack(1)", x.goBack(1), Check.NOT);
    }

    private static void feeding() {
        RopeSwing x = new RopeSwing();
        Check.due("feed(0)", x.feed(0, 1), Check.OUTSIDE);
        Check.due("feed(9)", x.feed(9, 1), Check.OUTSIDE);
        Check.due("feed(-1)", x.feed(-1, 1), Check.OUTSIDE);
        Check.due("feed least", x.feed(Integer.MIN_VALUE, 1), Check.OUTSIDE);
        // "sand": the highest of the lowest n bytes first, what stands above them does not matter
        Check.due("feed sand", x.feed(4, 0x4142434473616e64L), 4);
        Check.due("feed 5;", x.feed(2, 0x353bL), 6);
        Check.due("place", x.place(), 1);
        Check.due("sand", x.told(8), 5);
        for (int i = 1; i <= 37; i++) {
            Check.due("feed 8", x.feed(8, 0x2020202020202020L), 8 * i);
        }
        Check.due("feed beyond 300", x.feed(5, 0x2020202020L), Check.FULL);
        Check.due("OUTSIDE ahead of FULL", x.feed(9, 0), Check.OUTSIDE);
        Check.due("bytes behind FULL", x.told(10), 296);
        Check.due("feed up to 300", x.feed(4, 0x20202020L), 300);
        Check.due("feed behind 300", x.feed(1, 0x20L), Check.FULL);
        Check.due("300 blanks", x.place(), 0);
        Check.due("no fault", x.fault(), Check.NONE);
        Check.due("all untold again", x.told(8), 16);
        Check.due("empty again", x.told(10), 0);
    }

    private static void places() {
        RopeSwing x = new RopeSwing();
        Check.swinger(x, "50 150 100 2 0");
        x.seed(77);
        x.afternoon(3);
        int seed = x.seed(99);
        x.keep(1);
        x.set(0, 11);
        x.set(1, 50);
        x.set(2, 3);
        x.set(3, 7);
        x.set(4, 8);
        Check.due("the greatest place", Check.place(x, FULL_PLACE), 9);
        told("behind place", x, 999, 900, 999, 99, 80, 600, 600, 300, 24, 1, 0);
        now("behind place", x, 0, 0, 0, 80, 600, 900, 999, 300);
        Check.due("seed stays", x.seed(5), 99);
        Check.due("seed was drawn", seed == 77 ? 1 : 0, 0);
        int counted = 0;
        for (int e = 0; e < 9; e++) {
            counted += x.ends(e);
        }
        Check.due("ENDS stay", counted, 3);
        Check.due("IMAGE stays", x.goBack(1), 1);
        Check.due("who stays", x.who(0, 1), 150);
        // with a FAULT all else is as it was
        x.set(0, 1);
        x.set(2, 3);
        Check.due("a faulty place", Check.place(x, "bough 300;rope 200 200 2;water 9,9;stones 3;months 5;start 1 1;x"), -11);
        told("behind a faulty place", x, 999, 900, 999, 99, 80, 600, 600, 300, 24, 1, 0);
        Check.due("MONTH behind a faulty place", x.now(0), 1);
        Check.due("YEARS behind a faulty place", x.now(2), 3);
        Check.due("lower behind a faulty place", x.now(7), 7);
        Check.due("D behind a faulty place", x.cell(0, 0), 1);
        Check.due("stones behind a faulty place", x.cell(3, 2), 0);
        // the next place has nothing of the faulty one, nor of the one before
        Check.due("the next place", Check.place(x, "need 0;"), 1);
        told("the next place", x, 660, 450, 300, 10, 40, 100, 400, 0, 16, 1, 0);
        Check.due("lower in the next place", x.now(7), 0);
        Check.due("D in the next place", x.cell(0, 0), 200);
        Check.due("no stones in the next place", x.cell(0, 2), 0);
    }

    private static void soundPlaces() {
        Check.placeSound("", 0);
        Check.placeSound("   ", 0);
        Check.placeSound("bough660;", 1);
        Check.placeSound(" bough   660 ; ", 1);
        Check.placeSound("rope450 300 10;", 1);
        Check.placeSound("water 1 , 2 ,3;need5 ;", 2);
        Check.placeSound("start 007 00;", 1);
        Check.placeSound("need 000;", 1);
        Check.placeSound("months 0,0,0,0,0,0,0,0,0,0,0,0;", 1);
        Check.placeSound("water 0,0,0,0,0,0,0,0,0,0,0,0,0,0,0,0,0,0,0,0,0,0,0,600;", 1);
        Check.placeSound("stones 0,1,2,3,4,5,6,7,8,9,10,11,12,13,14,15,16,17,18,19,20,21,22,23;", 1);
        Check.placeSound("months 300;sand 24;stones 23;water 600;need 300;trunk 50;start 0 0;rope 100 20 0;bough 200;", 9);
        Check.placeSound("sand 1;trunk 600;start 80 600;rope 900 999 99;bough 999;need 0;", 6);
    }

    private static void boundsOfPlaces() {
        Check.placeFault("bough 199;", 2, 6);
        Check.placeFault("bough 1000;", 2, 6);
        Check.placeFault("rope 901 20 0;", 2, 5);
        Check.placeFault("rope 99 20 0;", 2, 5);
        Check.placeFault("rope 100 19 0;", 2, 9);
        Check.placeFault("rope 100 1000 0;", 2, 9);
        Check.placeFault("rope 100 20 100;", 2, 12);
        Check.placeFault("start 81 0;", 2, 6);
        Check.placeFault("start 80 601;", 2, 9);
        Check.placeFault("trunk 49;", 2, 6);
        Check.placeFault("trunk 601;", 2, 6);
        Check.placeFault("need 301;", 2, 5);
        Check.placeFault("water 0,601;", 2, 8);
        Check.placeFault("stones 0,24;", 2, 9);
        Check.placeFault("sand 0;", 2, 5);
        Check.placeFault("sand 25;", 2, 5);
        Check.placeFault("months 301;", 2, 7);
        Check.placeFault("need 0005;", 2, 5);
        Check.placeFault("need 99999999999999999999;", 2, 5);
    }

    private static void faultsOfPlaces() {
        Check.placeFault("knot 5;", 1, 0);
        Check.placeFault("boughs 660;", 1, 0);
        Check.placeFault("rough 660;", 1, 0);
        Check.placeFault("bougj 660;", 1, 0);
        Check.placeFault("boozh 660;", 1, 0);
        Check.placeFault(" boug 660;", 1, 1);
        Check.placeFault("boughrope 660;", 1, 0);
        Check.placeFault("bo ugh 660;", 1, 0);
        Check.placeFault("Bough 660;", 1, 0);
        Check.placeFault("bouGh 660;", 1, 0);
        Check.placeFault("bough! 660;", 1, 5);
        Check.placeFault("bough\u00e9 660;", 1, 5);
        Check.placeFault("bough\t660;", 1, 5);
        Check.placeFault("bough -66;", 1, 6);
        Check.placeFault("bough /66;", 1, 6);
        Check.placeFault("bough :66;", 1, 6);
        Check.placeFault("bough 660:", 1, 9);
        Check.placeFault("bough 660/", 1, 9);
        Check.placeFault("bough;", 1, 5);
        Check.placeFault("bough", 1, 5);
        Check.placeFault("bough  ", 1, 7);
        Check.placeFault("bough 660", 1, 9);
        Check.placeFault("bough 660  ", 1, 11);
        Check.placeFault("bough 660 600;", 1, 10);
        Check.placeFault("bough 660 6000;", 1, 10);
        Check.placeFault("bough 660,600;", 1, 9);
        Check.placeFault("bough 660;;", 1, 10);
        Check.placeFault("bough 66 0;", 2, 6);
        Check.placeFault("bough bough;", 1, 6);
        Check.placeFault("bough 660 rope;", 1, 10);
        Check.placeFault("rope 450,300,10;", 1, 8);
        Check.placeFault("rope 450 300;", 1, 12);
        Check.placeFault("rope 450 300 10 5;", 1, 16);
        Check.placeFault("start 10;", 1, 8);
        Check.placeFault("660;", 1, 0);
        Check.placeFault("6600;", 1, 0);
        Check.placeFault(";", 1, 0);
        Check.placeFault(",", 1, 0);
        Check.placeFault("\0", 1, 0);
        Check.placeFault("need 5;need 5;", 3, 7);
        Check.placeFault("need 5; need", 3, 8);
        Check.placeFault("need 5;needs 5;", 1, 7);
        Check.placeFault("bough 660;rope 450 300 10;start 1 1;trunk 60;need 1;water 1;stones 1;sand 1;months 1;water 1;", 3, 85);
        Check.placeFault("bough 660;rope 450 300 10;start 1 1;trunk 60;need 1;water 1;stones 1;sand 1;months 1;knot 1;", 1, 85);
        // every word is a word of its own
        for (String word : "bough rope start trunk need water stones sand months".split(" ")) {
            Check.placeFault("x" + word.substring(1) + " 1;", 1, 0);
            Check.placeFault(word.substring(1) + " 1;", 1, 0);
            Check.placeFault(word + "z 1;", 1, 0);
            Check.placeFault(word + "{ 1;", 1, word.length());
            Check.placeFault(word + "` 1;", 1, word.length());
        }
        // the first byte that has one
        Check.placeFault("need 999;need 5;", 2, 5);
        Check.placeFault("need 5;need 999;", 3, 7);
    }

    private static void faultsOfLists() {
        Check.placeFault("water;", 1, 5);
        Check.placeFault("water 1,;", 1, 8);
        Check.placeFault("water 1,,2;", 1, 8);
        Check.placeFault("water 1 2;", 1, 8);
        Check.placeFault("water 1,", 1, 8);
        Check.placeFault("water 1", 1, 7);
        Check.placeFault("water 1, need 5;", 1, 9);
        Check.placeFault("months 0,0,0,0,0,0,0,0,0,0,0,0,5;", 4, 31);
        Check.placeFault("months 0,0,0,0,0,0,0,0,0,0,0,0,", 1, 31);
        Check.placeFault("months 0,0,0,0,0,0,0,0,0,0,0,0,;", 1, 31);
        // out of its bounds and too many: the least of the two
        Check.placeFault("months 0,0,0,0,0,0,0,0,0,0,0,0,301;", 2, 31);
        String most = "water 0,0,0,0,0,0,0,0,0,0,0,0,0,0,0,0,0,0,0,0,0,0,0,0";
        Check.placeFault(most + ",0;", 4, most.length() + 1);
        Check.placeFault(most + ", 0000;", 2, most.length() + 2);
        Check.placeFault("stones;", 1, 6);
        Check.placeFault("stones 1,1;", 3, 9);
        Check.placeFault("stones 1,2,01;", 3, 11);
        Check.placeFault("stones 1 2;", 1, 9);
        String stones = "stones 0,1,2,3,4,5,6,7,8,9,10,11,12,13,14,15,16,17,18,19,20,21,22,23";
        Check.placeFault(stones + ",5;", 3, stones.length() + 1);
        Check.placeFault(stones + ",24;", 2, stones.length() + 1);
        Check.placeFault("sand 1,2;", 1, 6);
    }

    private static void swingers() {
        RopeSwing x = new RopeSwing();
        Check.due("the least", Check.swinger(x, "10 50 10 0 0"), 0);
        Check.due("the greatest", Check.swinger(x, "  150   220  300  20   36 "), 1);
        int[] due = {10, 50, 10, 0, 0, 150, 220, 300, 20, 36};
        for (int k = 0; k < 10; k++) {
            Check.due("who " + k, x.who(k / 5, k % 5), due[k]);
        }
        Check.feed(x, "50 100 50 0 0" + " ".repeat(28));
        Check.due("41 bytes", x.swinger(), Check.NOT);
        Check.due("41 bytes stay", x.told(10), 41);
        Check.due("no fault", x.fault(), Check.NONE);
        x.place();
        Check.due("the fault of a place", x.fault(), 0);
        Check.due("40 bytes", Check.swinger(x, "50 100 50 0 0" + " ".repeat(27)), 2);
        Check.due("no fault again", x.fault(), Check.NONE);
        for (int s = 3; s < 8; s++) {
            Check.due("swinger " + s, Check.swinger(x, "5" + s + " 100 50 0 0"), s);
        }
        Check.due("eight", x.told(9), 8);
        Check.due("a ninth", Check.swinger(x, "50 100 50 0 0"), Check.FULL);
        Check.due("its text stays", x.told(10), 13);
        Check.feed(x, "x".repeat(28));
        Check.due("NOT ahead of FULL", x.swinger(), Check.NOT);
        x.place();
        Check.due("a ninth with a fault", Check.swinger(x, "x"), Check.FULL);
        Check.due("the fault before stays", x.fault(), 0);
        Check.due("the last", x.who(7, 0), 57);
        Check.due("nobody", x.who(8, 0), Check.UNKNOWN);
    }

    private static void faultsOfSwingers() {
        Check.swingerFault("", 1, 0);
        Check.swingerFault("   ", 1, 3);
        Check.swingerFault("9 100 50 0 0", 2, 0);
        Check.swingerFault("151 100 50 0 0", 2, 0);
        Check.swingerFault("50 49 50 0 0", 2, 3);
        Check.swingerFault("50 221 50 0 0", 2, 3);
        Check.swingerFault("50 100 9 0 0", 2, 7);
        Check.swingerFault("50 100 301 0 0", 2, 7);
        Check.swingerFault("50 100 50 21 0", 2, 10);
        Check.swingerFault("50 100 50 0 37", 2, 12);
        Check.swingerFault("50 100 50 0 0000", 2, 12);
        Check.swingerFault("0050 100 50 0 0", 2, 0);
        Check.swingerFault("50 100 50 0", 1, 11);
        Check.swingerFault("50 100 50 0 ", 1, 12);
        Check.swingerFault("50 100 50 0 0 0", 1, 14);
        Check.swingerFault("50 100 50 0 0 9999", 1, 14);
        Check.swingerFault("50 100 50 0 0;", 1, 13);
        Check.swingerFault("50,100 50 0 0", 1, 2);
        Check.swingerFault("a50 100 50 0 0", 1, 0);
        Check.swingerFault("50 100 50 0 0a", 1, 13);
        Check.swingerFault("bough", 1, 0);
    }

    private static void faultStays() {
        RopeSwing x = new RopeSwing();
        Check.place(x, "need 5;need");
        Check.due("fault of the place", x.fault(), 7);
        Check.feed(x, "x".repeat(41));
        Check.due("refused", x.swinger(), Check.NOT);
        Check.due("a refusal leaves the fault", x.fault(), 7);
        x.place();
        Check.due("a new fault", x.fault(), 0);
        Check.due("sound", Check.swinger(x, "50 100 50 0 0"), 0);
        Check.due("none behind a sound text", x.fault(), Check.NONE);
        Check.due("faulty", Check.swinger(x, "50 100 50 0 99"), -12);
        Check.due("the fault of a swinger", x.fault(), 12);
        Check.due("one is told", x.told(9), 1);
        Check.due("the next has the next number", Check.swinger(x, "51 101 51 1 1"), 1);
        Check.due("who(1, 4)", x.who(1, 4), 1);
        Check.due("who(0, 4)", x.who(0, 4), 0);
    }

    private static void toldAndCells() {
        RopeSwing x = new RopeSwing();
        Check.due("told(-1)", x.told(-1), Check.OUTSIDE);
        Check.due("told(11)", x.told(11), Check.OUTSIDE);
        Check.place(x, "water 0,100,600;stones 1,9,20;sand 9;months 0,50,300;");
        int[] due = {0, 100, 600, 200};
        for (int c = 0; c < 4; c++) {
            Check.due("D of " + c, x.cell(c, 0), due[c]);
        }
        x.set(0, 1);
        int[] lower = {0, 50, 550, 150};
        for (int c = 0; c < 4; c++) {
            Check.due("DEPTH of " + c, x.cell(c, 1), lower[c]);
            Check.due("D of " + c + " in another MONTH", x.cell(c, 0), due[c]);
        }
        x.set(0, 2);
        Check.due("DEPTH, 0 at least", x.cell(1, 1), 0);
        Check.due("DEPTH 300 lower", x.cell(2, 1), 300);
        Check.due("lower", x.now(7), 300);
        x.set(0, 3);
        Check.due("lower untold", x.now(7), 0);
        Check.due("water", x.cell(0, 2), 0);
        Check.due("stones", x.cell(1, 2), 1);
        Check.due("water up to the sand", x.cell(8, 2), 0);
        Check.due("sand", x.cell(10, 2), 2);
        Check.due("sand from 9 on, stones told or not", x.cell(9, 2), 2);
        Check.due("sand to the end", x.cell(23, 2), 2);
        Check.due("cell(-1, 9)", x.cell(-1, 9), Check.UNKNOWN);
        Check.due("cell(24, 0)", x.cell(24, 0), Check.UNKNOWN);
        Check.due("cell(0, -1)", x.cell(0, -1), Check.OUTSIDE);
        Check.due("cell(0, 3)", x.cell(0, 3), Check.OUTSIDE);
        Check.place(x, "sand 24;");
        Check.due("no sand at all", x.cell(23, 2), 0);
        Check.due("who(0, 9)", x.who(0, 9), Check.UNKNOWN);
        Check.swinger(x, "50 100 50 0 0");
        Check.due("who(0, 5)", x.who(0, 5), Check.OUTSIDE);
        Check.due("who(0, -1)", x.who(0, -1), Check.OUTSIDE);
        Check.due("who(-1, 0)", x.who(-1, 0), Check.UNKNOWN);
    }

    private static void setAndNow() {
        RopeSwing x = new RopeSwing();
        int[] most = {11, 300, 40, 80, 600};
        int[] first = {0, 0, 0, 40, 100};
        for (int k = 0; k < 5; k++) {
            Check.due("below " + k, x.set(k, -1), Check.OUTSIDE);
            Check.due("beyond " + k, x.set(k, most[k] + 1), Check.OUTSIDE);
            Check.due("greatest " + k, x.set(k, most[k]), first[k]);
            Check.due("least " + k, x.set(k, 0), most[k]);
            Check.due("now " + k, x.now(k), 0);
        }
        Check.due("set(5, 0)", x.set(5, 0), Check.OUTSIDE);
        Check.due("set(-1, 0)", x.set(-1, 0), Check.OUTSIDE);
        Check.due("now(-1)", x.now(-1), Check.OUTSIDE);
        Check.due("now(8)", x.now(8), Check.OUTSIDE);
        Check.due("told(4) is as told", x.told(4), 40);
        Check.due("told(5) is as told", x.told(5), 100);
        Check.place(x, "rope 100 300 10;");
        Check.due("KNOT beyond L less 50", x.set(1, 51), Check.OUTSIDE);
        Check.due("KNOT of L less 50", x.set(1, 50), 0);
        Check.due("LENGTH", x.now(5), 50);
        Check.place(x, "rope 350 300 10;");
        Check.due("KNOT 300", x.set(1, 300), 0);
        Check.place(x, "rope 349 300 10;");
        Check.due("KNOT 300 of 349", x.set(1, 300), Check.OUTSIDE);
        Check.due("KNOT is as it was", x.now(1), 0);
        // each YEAR less a tenth, cut: 300, 270, 243, 219, 198, 179
        int[] strength = {300, 270, 243, 219, 198, 179};
        for (int y = 0; y < strength.length; y++) {
            x.set(2, y);
            Check.due("STRENGTH of year " + y, x.now(6), strength[y]);
        }
        Check.place(x, "rope 349 999 0;");
        x.set(2, 40);
        Check.due("nothing is lost", x.now(6), 999);
        Check.place(x, "rope 349 100 99;");
        x.set(2, 1);
        Check.due("nearly all is lost", x.now(6), 1);
        x.set(2, 40);
        Check.due("1 loses nothing more", x.now(6), 1);
    }
}
