import java.nio.charset.StandardCharsets;

/** What the tests share: answers that are due, texts that are fed. */
final class Check {
    static final int NONE = -1, UNKNOWN = -1000000001, OUTSIDE = -1000000002, NOT = -1000000003, FULL = -1000000004;
    private static int wrong = 0;
    private static int asked = 0;

    private Check() {
    }

    static void due(String call, long got, long want) {
        asked++;
        if (got != want) {
            wrong++;
            System.out.println(call + " answered " + got + ", due is " + want);
        }
    }

    static void holds(String what, boolean so) {
        due(what, so ? 1 : 0, 1);
    }

    static void feed(RopeSwing x, String words) {
        byte[] bytes = words.getBytes(StandardCharsets.ISO_8859_1);
        for (int i = 0; i < bytes.length; i += 8) {
            int n = Math.min(8, bytes.length - i);
            // what stands above the lowest n bytes must not matter
            long packed = n == 8 ? 0 : -1;
            for (int k = 0; k < n; k++) {
                packed = packed << 8 | bytes[i + k] & 255;
            }
            x.feed(n, packed);
        }
    }

    static int place(RopeSwing x, String words) {
        feed(x, words);
        return x.place();
    }

    static int swinger(RopeSwing x, String words) {
        feed(x, words);
        return x.swinger();
    }

    /** A new object with THE PLACE and the SWINGERS of these texts. */
    static RopeSwing of(String words, String... swingers) {
        RopeSwing x = new RopeSwing();
        place(x, words);
        for (String s : swingers) {
            swinger(x, s);
        }
        return x;
    }

    /** A fault of a text as THE PLACE: its number, and where it is. */
    static void placeFault(String words, int number, int at) {
        RopeSwing x = new RopeSwing();
        due("place of '" + words + "'", place(x, words), -10 - number);
        due("fault of '" + words + "'", x.fault(), at);
        due("bytes left of '" + words + "'", x.told(10), 0);
    }

    static void placeSound(String words, int clauses) {
        RopeSwing x = new RopeSwing();
        due("place of '" + words + "'", place(x, words), clauses);
        due("fault of '" + words + "'", x.fault(), NONE);
    }

    static void swingerFault(String words, int number, int at) {
        RopeSwing x = new RopeSwing();
        due("swinger of '" + words + "'", swinger(x, words), -10 - number);
        due("fault of '" + words + "'", x.fault(), at);
        due("bytes left of '" + words + "'", x.told(10), 0);
        due("swingers behind '" + words + "'", x.told(9), 0);
    }

    static void end(String test) {
        System.out.println(test + ": " + asked + " answers, " + wrong + " not as due");
        if (wrong != 0) {
            System.exit(1);
        }
    }
}
