import java.util.Random;

/** Runs of random calls on RopeSwing and on the Model: their answers are the same. The draws are always the same. */
public final class ModelTest {
    private static final Random DRAWS = new Random(20261119);

    public static void main(String[] args) {
        int runs = args.length > 0 ? Integer.parseInt(args[0]) : 150;
        for (int run = 0; run < runs; run++) {
            run(run, 40);
        }
        Check.end("ModelTest");
    }

    private static int draw(int n) {
        return DRAWS.nextInt(n);
    }

    private static void run(int run, int calls) {
        RopeSwing x = new RopeSwing();
        Model m = new Model();
        both(run, x, m, placeText(false), true);
        int many = draw(5);
        for (int s = 0; s < many; s++) {
            both(run, x, m, swingerText(false), false);
        }
        for (int i = 0; i < calls; i++) {
            step(run, x, m);
        }
    }

    private static void both(int run, RopeSwing x, Model m, String words, boolean place) {
        Check.feed(x, words);
        m.text.append(words);
        if (m.text.length() > 300) {
            throw new IllegalStateException("a text of the test is too long");
        }
        String call = "run " + run + ": " + (place ? "place" : "swinger") + " of '" + m.text + "'";
        Check.due(call, place ? x.place() : x.swinger(), place ? m.place() : m.swinger());
        Check.due(call + " fault", x.fault(), m.faultAt);
        Check.due(call + " bytes", x.told(10), m.told(10));
        if (x.told(10) != 0) {
            x.place();
            m.place();
        }
    }

    private static void step(int run, RopeSwing x, Model m) {
        int s = draw(14) == 0 ? draw(11) - 2 : draw(Math.max(1, m.swingers.size()));
        int t = draw(12) == 0 ? draw(203) - 1 : draw(4) == 0 ? 201 - (1 + draw(60)) : 1 + draw(80);
        int what = draw(7) - (draw(9) == 0 ? 1 : 0);
        String at = "run " + run + ": ";
        String st = "(" + s + ", " + t + ")";
        switch (draw(36)) {
            case 0: Check.due(at + "holds" + st + what, x.holds(s, t, what), m.holds(s, t, what)); break;
            case 1: case 2: case 3:
                for (int k = 0; k < 6; k++) {
                    Check.due(at + "lands" + st + k, x.lands(s, t, k), m.lands(s, t, k));
                }
                break;
            case 4: Check.due(at + "best " + s, x.best(s, what % 3), m.best(s, what % 3)); break;
            case 5: Check.due(at + "wide " + s, x.wide(s, what % 4), m.wide(s, what % 4)); break;
            case 6: case 7: int d = draw(43) - 1; Check.due(at + "odds" + st + d, x.odds(s, t, d), m.odds(s, t, d)); break;
            case 8: Check.due(at + "strong" + st, x.strong(s, t), m.strong(s, t)); break;
            case 9: Check.due(at + "heavy", x.heavy(), m.heavy()); break;
            case 10: Check.due(at + "may", x.may(), m.may()); break;
            case 11: Check.due(at + "months " + s, x.months(s), m.months(s)); break;
            case 12: Check.due(at + "turn" + st, x.turn(s, t), m.turn(s, t)); break;
            case 13: int a = draw(364) - 182; Check.due(at + "film " + t + " " + a, x.film(t, a), m.film(t, a)); break;
            case 14: Check.due(at + "age " + s, x.age(s), m.age(s)); break;
            case 15: int set = draw(66) - 1; Check.due(at + "harmed " + set, x.harmed(set), m.harmed(set)); break;
            case 16: Check.due(at + "enough", x.enough(), m.enough()); break;
            case 17: int v = draw(9) == 0 ? -draw(9) : draw(Integer.MAX_VALUE); Check.due(at + "seed", x.seed(v), m.seed(v)); break;
            case 18: case 19: int n = draw(43) - 1; Check.due(at + "afternoon", x.afternoon(n), m.afternoon(n)); break;
            case 20: case 21: int i = draw(4) - 1; Check.due(at + "keep", x.keep(i), m.keep(i)); break;
            case 22: case 23: int b = draw(4) - 1; Check.due(at + "goBack", x.goBack(b), m.goBack(b)); break;
            case 24: both(run, x, m, placeText(draw(3) == 0), true); break;
            case 25: both(run, x, m, swingerText(draw(3) == 0), false); break;
            case 26: if (draw(3) == 0) { Check.due(at + "rope " + s, x.rope(s, what % 4), m.rope(s, what % 4)); } break;
            default: set(at, x, m);
        }
        all(at, x, m);
    }

    private static void set(String at, RopeSwing x, Model m) {
        int what = draw(6) - (draw(9) == 0 ? 1 : 0);
        int[] most = {12, 300, 41, 81, 601, 5, 5};
        int v = draw(most[what < 0 ? 5 : what] + 1) - (draw(9) == 0 ? 1 : 0);
        if (what == 2 && draw(2) == 0) {
            v = draw(6);
        }
        Check.due(at + "set(" + what + ", " + v + ")", x.set(what, v), m.set(what, v));
    }

    /** What is cheap to ask is asked behind every step. */
    private static void all(String at, RopeSwing x, Model m) {
        for (int k = -1; k < 12; k++) {
            Check.due(at + "now " + k, x.now(k), m.now(k));
            Check.due(at + "told " + k, x.told(k), m.told(k));
            Check.due(at + "ends " + k, x.ends(k), m.ends(k));
        }
        int c = draw(27) - 1;
        for (int k = -1; k < 4; k++) {
            Check.due(at + "cell " + c + " " + k, x.cell(c, k), m.cell(c, k));
        }
        int s = draw(9) - 1;
        for (int k = -1; k < 6; k++) {
            Check.due(at + "who " + s + " " + k, x.who(s, k), m.who(s, k));
        }
        int a = draw(3800) - 1900;
        Check.due(at + "sine " + a, x.sine(a), m.sine(a));
    }

    // ---- texts

    private static String blanks() {
        return draw(6) == 0 ? " ".repeat(draw(3)) : "";
    }

    private static String number(int least, int most, boolean wild) {
        int v = least + draw(most - least + 1);
        if (wild && draw(12) == 0) {
            v = draw(1100);
        }
        return (wild && draw(20) == 0 ? "00" : "") + v;
    }

    private static String list(int many, int least, int most, boolean wild) {
        StringBuilder b = new StringBuilder();
        for (int i = 0; i < many; i++) {
            b.append(i == 0 ? "" : ",").append(blanks()).append(number(least, most, wild)).append(blanks());
        }
        return b.toString();
    }

    private static String clause(int k, boolean wild) {
        switch (k) {
            case 0: return "bough " + number(200, 999, wild);
            case 1: return "rope " + number(100, 900, wild) + " " + number(20, 999, wild) + " " + number(0, 30, wild);
            case 2: return "start " + number(0, 80, wild) + " " + number(0, 600, wild);
            case 3: return "trunk " + number(50, 600, wild);
            case 4: return "need " + number(0, 300, wild);
            case 5: return "water" + list(1 + draw(wild ? 26 : 24), 0, 600, wild);
            case 6:
                StringBuilder b = new StringBuilder("stones ");
                int c = draw(8);
                b.append(c);
                for (c += 1 + draw(6); c < 24 && b.length() < 30; c += 1 + draw(6)) {
                    b.append(",").append(wild && draw(9) == 0 ? draw(26) : c);
                }
                return b.toString();
            case 7: return "sand " + number(8, 24, wild);
            default: return "months " + list(1 + draw(wild ? 14 : 12), 0, 200, wild);
        }
    }

    private static String placeText(boolean wild) {
        StringBuilder b = new StringBuilder();
        int set = draw(512);
        int turn = draw(9);
        for (int i = 0; i < 9; i++) {
            int k = (i * 4 + turn) % 9;
            if ((set >> k & 1) == 1 || wild && draw(9) == 0) {
                b.append(blanks()).append(clause(k, wild)).append(blanks()).append(wild && draw(30) == 0 ? "" : ";");
                if (wild && draw(9) == 0) {
                    b.append(clause(k, false)).append(';');
                }
            }
        }
        if (wild) {
            spoil(b);
        }
        return b.length() > 300 ? b.substring(0, wild ? 300 : b.lastIndexOf(";", 299) + 1) : b.toString();
    }

    private static String swingerText(boolean wild) {
        StringBuilder b = new StringBuilder(blanks());
        boolean holdsLong = draw(2) == 0;
        b.append(number(10, holdsLong ? 40 : 150, wild)).append(' ').append(number(50, 220, wild)).append(' ');
        b.append(number(holdsLong ? 150 : 10, 300, wild)).append(' ').append(number(0, holdsLong ? 2 : 20, wild)).append(' ').append(number(0, 36, wild)).append(blanks());
        if (wild) {
            spoil(b);
        }
        return b.length() > 45 ? b.substring(0, 45) : b.toString();
    }

    private static void spoil(StringBuilder b) {
        String signs = " ;,az09A\u00e9\n\0";
        for (int i = draw(4); i > 0 && b.length() > 1; i--) {
            int at = draw(b.length());
            switch (draw(4)) {
                case 0: b.deleteCharAt(at); break;
                case 1: b.insert(at, signs.charAt(draw(signs.length()))); break;
                case 2: b.setCharAt(at, signs.charAt(draw(signs.length()))); break;
                default: if (draw(4) == 0) { b.setLength(at); }
            }
        }
    }
}
