import java.io.IOException;
import java.nio.charset.StandardCharsets;
import java.nio.file.Files;
import java.nio.file.Paths;

/** What the tests share: answers that are due, texts that are fed. */
final class Check {
    static final int NONE = -1, UNKNOWN = -1000000001, OUTSIDE = -1000000002, NOT = -1000000003, FULL = -1000000004;
    private static int wrong = 0;
    private static int asked = 0;
    private static int sentences = 0;
    private static String document = null;

    private Check() {
    }

    static void due(String call, long got, long want) {
        asked++;
        if (got != want) {
            wrong++;
            System.out.println(call + " answered " + got + ", due is " + want);
        }
    }

    /** The sentence that the next answers hold to: it stands in the document, word for word (blanks and line ends are alike). */
    static void says(String sentence) {
        sentences++;
        if (document == null) {
            document = readDocument();
        }
        // where the tests run without the document their answers still count
        if (!document.isEmpty()) {
            holds("the document says '" + sentence + "'", document.contains(sentence));
        }
    }

    private static String readDocument() {
        try {
            return new String(Files.readAllBytes(Paths.get("../shared/DOC.md")), StandardCharsets.UTF_8).replaceAll("\\s+", " ");
        } catch (IOException e) {
            System.out.println("the sentences are not compared, ../shared/DOC.md can't be read: " + e);
            return "";
        }
    }

    static void holds(String what, boolean so) {
        due(what, so ? 1 : 0, 1);
    }

    static void feed(RopeSwing x, String words) {
        byte[] bytes = words.getBytes(StandardCharsets.ISO_8859_1);
        for (int i = 0; i < bytes.length; i += 8) {
            int n = Math.min(8, bytes.length - i);
            // what stands above the lowest n bytes must not matter
            long packed = n == 8 ? 0 : -1;
            for (int k = 0; k < n; k++) {
                packed = packed << 8 | bytes[i + k] & 255;
            }
            x.feed(n, packed);
        }
    }

    static int place(RopeSwing x, String words) {
        feed(x, words);
        return x.place();
    }

    static int swinger(RopeSwing x, String words) {
        feed(x, words);
        return x.swinger();
    }

    /** A new object with THE PLACE and the SWINGERS of these texts. */
    static RopeSwing of(String words, String... swingers) {
        RopeSwing x = new RopeSwing();
        place(x, words);
        for (String s : swingers) {
            swinger(x, s);
        }
        return x;
    }

    /** A fault of a text as THE PLACE: its number, and where it is. */
    static void placeFault(String words, int number, int at) {
        RopeSwing x = new RopeSwing();
        due("place of '" + words + "'", place(x, words), -10 - number);
        due("fault of '" + words + "'", x.fault(), at);
        due("bytes left of '" + words + "'", x.told(10), 0);
    }

    static void placeSound(String words, int clauses) {
        RopeSwing x = new RopeSwing();
        due("place of '" + words + "'", place(x, words), clauses);
        due("fault of '" + words + "'", x.fault(), NONE);
    }

    static void swingerFault(String words, int number, int at) {
        RopeSwing x = new RopeSwing();
        due("swinger of '" + words + "'", swinger(x, words), -10 - number);
        due("fault of '" + words + "'", x.fault(), at);
        due("bytes left of '" + words + "'", x.told(10), 0);
        due("swingers behind '" + words + "'", x.told(9), 0);
    }

    /** All that can be asked without a swing is the same of both; then what both would go back to is, too. */
    static void alike(String when, RopeSwing x, RopeSwing y) {
        sameNow(when, x, y);
        for (int i = 0; i < 2; i++) {
            due(when + ": goBack(" + i + ")", x.goBack(i), y.goBack(i));
            sameNow(when + ", IMAGE " + i, x, y);
        }
        due(when + ": place()", x.place(), y.place());
        due(when + ": fault() of what was fed", x.fault(), y.fault());
    }

    private static void sameNow(String when, RopeSwing x, RopeSwing y) {
        due(when + ": fault()", x.fault(), y.fault());
        for (int k = 0; k <= 10; k++) {
            due(when + ": told(" + k + ")", x.told(k), y.told(k));
            due(when + ": now(" + k + ")", x.now(k), y.now(k));
            due(when + ": ends(" + k + ")", x.ends(k), y.ends(k));
        }
        for (int k = 0; k < 24; k++) {
            due(when + ": cell(" + k + ", " + k % 3 + ")", x.cell(k, k % 3), y.cell(k, k % 3));
        }
        for (int s = 0; s < 8; s++) {
            for (int k = 0; k < 5; k++) {
                due(when + ": who(" + s + ", " + k + ")", x.who(s, k), y.who(s, k));
            }
        }
        int seed = x.seed(0);
        due(when + ": THE SEED", y.seed(0), seed);
        x.seed(seed);
        y.seed(seed);
    }

    static void end(String test) {
        String of = sentences == 0 ? "" : " to " + sentences + " sentences";
        System.out.println(test + ": " + asked + " answers" + of + ", " + wrong + " not as due");
        if (wrong != 0) {
            System.exit(1);
        }
    }
}
