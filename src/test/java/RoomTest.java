import java.lang.management.ManagementFactory;

/** All calls of a run live in one room: what is made is made by the constructor, no call makes anything. */
public final class RoomTest {
    private static final com.sun.management.ThreadMXBean THREADS = (com.sun.management.ThreadMXBean) ManagementFactory.getThreadMXBean();

    public static void main(String[] args) {
        RopeSwing warm = new RopeSwing();
        calls(warm);
        long before = made();
        RopeSwing x = new RopeSwing();
        long built = made() - before;
        Check.holds("an object takes little: " + built, built < 40000);
        before = made();
        for (int i = 0; i < 5; i++) {
            calls(x);
        }
        long by = made() - before;
        Check.holds("calls make nothing: " + by, by < 20000);
        strangeArguments();
        Check.end("RoomTest");
    }

    private static long made() {
        return THREADS.getThreadAllocatedBytes(Thread.currentThread().getId());
    }

    private static void calls(RopeSwing x) {
        x.feed(8, 0x6e65656420353b20L);
        x.place();
        x.feed(8, 0x3530203132302039L);
        x.feed(6, 0x302032203000L);
        x.swinger();
        x.feed(8, 0x3530203132302039L);
        x.feed(5, 0x3020322030L);
        x.swinger();
        x.cell(0, 1);
        x.who(0, 0);
        x.set(1, 50);
        x.now(5);
        x.sine(10);
        x.holds(0, 100, 5);
        x.lands(0, 20, 0);
        x.best(0, 0);
        x.wide(0, 0);
        x.odds(0, 20, 10);
        x.strong(0, 100);
        x.heavy();
        x.may();
        x.months(0);
        x.rope(0, 0);
        x.turn(0, 10);
        x.film(100, 10);
        x.age(0);
        x.harmed(5);
        x.enough();
        x.seed(4);
        x.afternoon(40);
        x.ends(2);
        x.keep(0);
        x.goBack(0);
    }

    /** Whatever comes in, an answer comes out. */
    private static void strangeArguments() {
        int[] strange = {Integer.MIN_VALUE, Integer.MIN_VALUE + 1, -1801, -2, -1, 0, 1, 8, 200, 201, 1801, 65536, Integer.MAX_VALUE - 1, Integer.MAX_VALUE};
        for (int round = 0; round < 2; round++) {
            for (int a : strange) {
                RopeSwing x = new RopeSwing();
                if (round == 1) {
                    Check.swinger(x, "50 150 100 2 0");
                }
                one(x, a);
                for (int b : strange) {
                    two(x, a, b);
                }
                for (int b : strange) {
                    RopeSwing y = new RopeSwing();
                    Check.swinger(y, "50 150 100 2 0");
                    for (int c : strange) {
                        y.holds(a, b, c);
                        y.lands(a, b, c);
                        y.odds(a, b, c);
                    }
                }
            }
        }
    }

    private static void one(RopeSwing x, int a) {
        x.feed(a, Long.MIN_VALUE + a);
        x.place();
        x.told(a);
        x.now(a);
        x.sine(a);
        x.months(a);
        x.age(a);
        x.harmed(a);
        x.seed(a);
        x.afternoon(a);
        x.ends(a);
        x.keep(a);
        x.goBack(a);
    }

    private static void two(RopeSwing x, int a, int b) {
        x.cell(a, b);
        x.who(a, b);
        x.set(a, b);
        x.best(a, b);
        x.wide(a, b);
        x.strong(a, b);
        x.rope(a, b);
        x.turn(a, b);
        x.film(a, b);
    }
}
