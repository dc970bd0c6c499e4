/** What the document says of all calls: the REFUSALS and their order, what they change, how many calls an object takes. */
public final class EdgeRefusalsTest {
    private static final int UNKNOWN = Check.UNKNOWN, OUTSIDE = Check.OUTSIDE, NOT = Check.NOT, FULL = Check.FULL;
    private static final int REFUSED = 45;

    public static void main(String[] args) {
        theirNumbers();
        theirOrder();
        nothingChanges();
        askingChangesNothing();
        the512thCall();
        Check.end("EdgeRefusalsTest");
    }

    private static void theirNumbers() {
        Check.says("NONE is -1.");
        Check.says("They are far below all that is counted: -1000000001 and on.");
        Check.due("NONE", RopeSwing.NONE, -1);
        Check.due("UNKNOWN", RopeSwing.UNKNOWN, -1000000001);
        Check.due("OUTSIDE", RopeSwing.OUTSIDE, -1000000002);
        Check.due("NOT", RopeSwing.NOT, -1000000003);
        Check.due("FULL", RopeSwing.FULL, -1000000004);
    }

    private static void theirOrder() {
        Check.says("REFUSALS, of several the first in this order: UNKNOWN (a SWINGER, CELL, IMAGE that there is not; bits of such), OUTSIDE (another number out of its bounds), NOT (not now, as told), FULL.");
        RopeSwing x = new RopeSwing();
        Check.due("cell: UNKNOWN, OUTSIDE", x.cell(24, 3), UNKNOWN);
        Check.due("who: UNKNOWN, OUTSIDE", x.who(0, 5), UNKNOWN);
        Check.due("holds: UNKNOWN, OUTSIDE", x.holds(0, 201, 6), UNKNOWN);
        Check.due("lands: UNKNOWN, OUTSIDE", x.lands(0, 0, 6), UNKNOWN);
        Check.due("best: UNKNOWN, OUTSIDE", x.best(0, 2), UNKNOWN);
        Check.due("wide: UNKNOWN, OUTSIDE", x.wide(0, 3), UNKNOWN);
        Check.due("odds: UNKNOWN, OUTSIDE", x.odds(0, 0, 41), UNKNOWN);
        Check.due("strong: UNKNOWN, OUTSIDE", x.strong(0, 0), UNKNOWN);
        Check.due("rope: UNKNOWN, OUTSIDE", x.rope(0, 3), UNKNOWN);
        Check.due("turn: UNKNOWN, OUTSIDE", x.turn(0, 0), UNKNOWN);
        Check.due("afternoon: OUTSIDE, NOT", x.afternoon(41), OUTSIDE);
        Check.due("goBack: UNKNOWN, NOT", x.goBack(2), UNKNOWN);
        Check.feed(x, " ".repeat(300));
        Check.due("feed: OUTSIDE, FULL", x.feed(9, 0), OUTSIDE);
        x.place();
        for (int s = 0; s < 8; s++) {
            Check.swinger(x, "10 50 10 0 0");
        }
        Check.feed(x, " ".repeat(41));
        Check.due("swinger: NOT, FULL", x.swinger(), NOT);
        x.place();
        Check.due("swinger: FULL", x.swinger(), FULL);
    }

    /** An object in the midst of things: a text is begun, there is a FAULT of before, one IMAGE, ENDS that were counted. */
    private static RopeSwing midst(int swingers) {
        RopeSwing x = Check.of("rope 340 200 7;start 33 222;water 30,40;months 5,6;stones 4;sand 9;");
        for (int s = 0; s < swingers; s++) {
            Check.swinger(x, "2" + s + " 60 90 3 1");
        }
        x.set(0, 1);
        x.set(1, 100);
        x.set(2, 3);
        x.seed(12345);
        x.afternoon(9);
        x.keep(1);
        x.set(3, 44);
        x.set(4, 55);
        x.afternoon(8);
        Check.place(x, "need 5;need");
        Check.feed(x, "need 7;x");
        return x;
    }

    private static void nothingChanges() {
        Check.says("What is refused changes nothing.");
        for (int k = 0; k < REFUSED; k++) {
            int swingers = k == 0 ? 0 : k == 1 ? 8 : 2;
            RopeSwing x = midst(swingers);
            RopeSwing y = midst(swingers);
            int got = refused(x, k);
            Check.holds("call " + k + " is refused: " + got, got == UNKNOWN || got == OUTSIDE || got == NOT || got == FULL);
            Check.alike("behind the refused call " + k, x, y);
        }
        // a text too long to be a SWINGER, or to take more, stays as it is
        for (int k = 0; k < 2; k++) {
            RopeSwing x = midst(2);
            RopeSwing y = midst(2);
            Check.feed(x, " ".repeat(292));
            Check.feed(y, " ".repeat(292));
            Check.due("refused", k == 0 ? x.swinger() : x.feed(1, 0x3b), k == 0 ? NOT : FULL);
            Check.alike("behind the refused text " + k, x, y);
        }
    }

    private static int refused(RopeSwing x, int k) {
        switch (k) {
            case 0: return x.afternoon(40);
            case 1: return x.swinger();
            case 2: return x.feed(0, 0x20);
            case 3: return x.feed(9, 0x20);
            case 4: return x.set(0, 12);
            case 5: return x.set(1, 291);
            case 6: return x.set(2, 41);
            case 7: return x.set(3, 81);
            case 8: return x.set(4, 601);
            case 9: return x.set(5, 0);
            case 10: return x.set(0, -1);
            case 11: return x.set(1, -1);
            case 12: return x.set(2, -1);
            case 13: return x.set(3, -1);
            case 14: return x.set(4, -1);
            case 15: return x.set(-1, 0);
            case 16: return x.seed(-1);
            case 17: return x.afternoon(0);
            case 18: return x.afternoon(41);
            case 19: return x.keep(-1);
            case 20: return x.keep(2);
            case 21: return x.goBack(-1);
            case 22: return x.goBack(2);
            case 23: return x.goBack(0);
            case 24: return x.told(11);
            case 25: return x.cell(24, 0);
            case 26: return x.who(2, 0);
            case 27: return x.now(8);
            case 28: return x.sine(1801);
            case 29: return x.holds(0, 201, 0);
            case 30: return x.lands(0, 201, 0);
            case 31: return x.best(0, 2);
            case 32: return x.wide(0, 3);
            case 33: return x.odds(0, 1, 41);
            case 34: return x.strong(0, 201);
            case 35: return x.months(2);
            case 36: return x.rope(0, 3);
            case 37: return x.turn(0, 201);
            case 38: return x.film(201, 0);
            case 39: return x.age(2);
            case 40: return x.harmed(64);
            case 41: return x.ends(9);
            case 42: return x.cell(0, 3);
            case 43: return x.who(0, 5);
            default: return x.film(1, 181);
        }
    }

    /** Nothing is promised beyond the answers and the changes that are told: who asks changes nothing. */
    private static void askingChangesNothing() {
        Check.says("Nothing is promised beyond the answers and state changes described above");
        RopeSwing x = midst(3);
        RopeSwing y = midst(3);
        x.fault();
        x.told(3);
        x.cell(3, 1);
        x.who(1, 1);
        x.now(5);
        x.sine(77);
        x.holds(1, 33, 5);
        x.lands(2, 20, 0);
        x.best(1, 1);
        x.wide(2, 1);
        x.odds(0, 9, 40);
        x.strong(1, 30);
        x.heavy();
        x.may();
        x.months(1);
        x.rope(2, 1);
        x.turn(0, 9);
        x.film(50, 5);
        x.age(1);
        for (int measures = 0; measures <= 63; measures += 9) {
            x.harmed(measures);
        }
        x.enough();
        x.ends(2);
        Check.due("what comes next is the same", x.lands(1, 12, 1), y.lands(1, 12, 1));
        Check.due("and next", x.heavy(), y.heavy());
        Check.alike("behind asking", x, y);
    }

    private static void the512thCall() {
        Check.says("An object is used for at most 512 calls after it has been made");
        // three calls tell a SWINGER; the last of 512 still answers as it is due
        RopeSwing x = new RopeSwing();
        Check.due("two calls feed", x.feed(8, 0x3130203530203330L), 8);
        x.feed(6, 0x302030203020L);
        Check.due("the third", x.swinger(), 0);
        x.set(3, 0);
        x.set(4, 0);
        int calls = 5;
        int times = 0;
        while (calls < 511) {
            Check.due("call " + (calls + 1), x.afternoon(40), 40);
            calls++;
            times += 40;
        }
        Check.due("the 512th", x.ends(2), times);
        // what later calls answer is free: but they answer
        for (int k = 0; k < 2000; k++) {
            x.feed(8, -1L);
            x.swinger();
            x.afternoon(40);
            x.place();
            x.goBack(k % 3);
            x.set(k % 6, k % 90);
            x.keep(k % 3);
        }
        Check.holds("many calls later", x.now(5) >= 50);
    }
}
