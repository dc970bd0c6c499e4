import java.util.ArrayList;
import java.util.Arrays;
import java.util.HashSet;
import java.util.List;
import java.util.Set;
import java.util.regex.Matcher;
import java.util.regex.Pattern;

/**
 * The document once more, in its plainest form: every question swings anew, TICK by TICK. It shares nothing with
 * RopeSwing, so that what RopeSwing does at once for many TIMES is held against it.
 */
final class Model {
    static final int NONE = -1, UNKNOWN = -1000000001, OUTSIDE = -1000000002, NOT = -1000000003, FULL = -1000000004;
    static final String[] NAMES = {"bough", "rope", "start", "trunk", "need", "water", "stones", "sand", "months"};

    static final class Place {
        int b = 660, l = 450, s = 300, loss = 10, a = 40, v = 100, t = 400, n = 150, sand = 16;
        int[] d = new int[24];
        Set<Integer> stones = new HashSet<>();
        int[] lower = new int[12];

        Place() {
            Arrays.fill(d, 200);
        }

        int kind(int c) {
            return c >= sand ? 2 : stones.contains(c) ? 1 : 0;
        }
    }

    /** All that a jump depends on. */
    static final class Case implements Cloneable {
        int length, strength, lower, a, v, w, r, g, q, t;

        Case copy() {
            try {
                return (Case) clone();
            } catch (CloneNotSupportedException e) {
                throw new IllegalStateException(e);
            }
        }
    }

    static final class Result {
        int end, where, held, flown, highest, turned;

        boolean good() {
            return end == 1 || end == 2;
        }
    }

    static final class Kept {
        int[] hand;
        int[] ends;
        long seed;
    }

    final StringBuilder text = new StringBuilder();
    Place place = new Place();
    final List<int[]> swingers = new ArrayList<>();
    int[] hand = {0, 0, 0, 40, 100};
    long seed = 0;
    int[] ends = new int[9];
    final Kept[] images = new Kept[2];
    int faultAt = NONE;
    int faultNumber;

    // ---- texts

    static final Pattern TOKEN = Pattern.compile(" *([a-z]+|[0-9]+|[^ ]|$)", Pattern.DOTALL);

    /** The tokens with their places; the last is empty: the end. */
    static List<Object[]> tokens(String s) {
        List<Object[]> all = new ArrayList<>();
        Matcher m = TOKEN.matcher(s);
        int from = 0;
        while (m.find(from)) {
            all.add(new Object[] {m.group(1), m.start(1)});
            if (m.group(1).isEmpty()) {
                break;
            }
            from = m.end();
        }
        Object[] last = all.get(all.size() - 1);
        if (!((String) last[0]).isEmpty()) {
            all.add(new Object[] {"", s.length()});
        } else {
            last[1] = s.length();
        }
        return all;
    }

    private final class Bad extends RuntimeException {
        private static final long serialVersionUID = 1;

        Bad(int number, int at) {
            faultNumber = number;
            faultAt = at;
        }
    }

    private List<Object[]> left;

    private String head() {
        return (String) left.get(0)[0];
    }

    private int headAt() {
        return (Integer) left.get(0)[1];
    }

    private int numberIn(int least, int most) {
        String h = head();
        if (h.isEmpty() || h.charAt(0) < '0' || h.charAt(0) > '9') {
            throw new Bad(1, headAt());
        }
        if (h.length() > 3 || Integer.parseInt(h) < least || Integer.parseInt(h) > most) {
            throw new Bad(2, headAt());
        }
        return Integer.parseInt(h);
    }

    private int number(int least, int most) {
        int n = numberIn(least, most);
        left.remove(0);
        return n;
    }

    private void sign(String s) {
        if (!head().equals(s)) {
            throw new Bad(1, headAt());
        }
        left.remove(0);
    }

    int place() {
        left = tokens(text.toString());
        text.setLength(0);
        Place p = new Place();
        Set<String> seen = new HashSet<>();
        faultAt = NONE;
        try {
            while (!head().isEmpty()) {
                String name = head();
                if (!Arrays.asList(NAMES).contains(name)) {
                    throw new Bad(1, headAt());
                }
                if (!seen.add(name)) {
                    throw new Bad(3, headAt());
                }
                left.remove(0);
                clause(name, p);
                sign(";");
            }
        } catch (Bad e) {
            return -10 - faultNumber;
        }
        place = p;
        hand = new int[] {0, 0, 0, p.a, p.v};
        return seen.size();
    }

    private void clause(String name, Place p) {
        switch (name) {
            case "bough": p.b = number(200, 999); break;
            case "rope": p.l = number(100, 900); p.s = number(20, 999); p.loss = number(0, 99); break;
            case "start": p.a = number(0, 80); p.v = number(0, 600); break;
            case "trunk": p.t = number(50, 600); break;
            case "need": p.n = number(0, 300); break;
            case "sand": p.sand = number(1, 24); break;
            case "water": list(p.d, 600); break;
            case "months": list(p.lower, 300); break;
            default:
                while (true) {
                    int c = numberIn(0, 23);
                    if (!p.stones.add(c)) {
                        throw new Bad(3, headAt());
                    }
                    left.remove(0);
                    if (!head().equals(",")) {
                        return;
                    }
                    left.remove(0);
                }
        }
    }

    private void list(int[] row, int most) {
        int many = 0;
        while (true) {
            int n = numberIn(0, most);
            if (many == row.length) {
                throw new Bad(4, headAt());
            }
            row[many++] = n;
            left.remove(0);
            if (!head().equals(",")) {
                return;
            }
            left.remove(0);
        }
    }

    int swinger() {
        if (text.length() > 40) {
            return NOT;
        }
        if (swingers.size() == 8) {
            return FULL;
        }
        left = tokens(text.toString());
        text.setLength(0);
        faultAt = NONE;
        try {
            int[] one = {number(10, 150), number(50, 220), number(10, 300), number(0, 20), number(0, 36)};
            if (!head().isEmpty()) {
                throw new Bad(1, headAt());
            }
            swingers.add(one);
        } catch (Bad e) {
            return -10 - faultNumber;
        }
        return swingers.size() - 1;
    }

    int feed(int n, long bytes) {
        if (n < 1 || n > 8) {
            return OUTSIDE;
        }
        if (text.length() + n > 300) {
            return FULL;
        }
        for (int k = n - 1; k >= 0; k--) {
            text.append((char) (bytes >> 8 * k & 255));
        }
        return text.length();
    }

    int told(int what) {
        int[] all = {place.b, place.l, place.s, place.loss, place.a, place.v, place.t, place.n, place.sand, swingers.size(), text.length()};
        return what < 0 || what >= all.length ? OUTSIDE : all[what];
    }

    int cell(int c, int what) {
        if (c < 0 || c > 23) {
            return UNKNOWN;
        }
        if (what < 0 || what > 2) {
            return OUTSIDE;
        }
        return what == 0 ? place.d[c] : what == 1 ? Math.max(0, place.d[c] - place.lower[hand[0]]) : place.kind(c);
    }

    int who(int s, int what) {
        return unknown(s) ? UNKNOWN : what < 0 || what > 4 ? OUTSIDE : swingers.get(s)[what];
    }

    int set(int what, int v) {
        int[] most = {11, Math.min(300, place.l - 50), 40, 80, 600};
        if (what < 0 || what > 4 || v < 0 || v > most[what]) {
            return OUTSIDE;
        }
        int was = hand[what];
        hand[what] = v;
        return was;
    }

    int now(int what) {
        if (what < 0 || what > 7) {
            return OUTSIDE;
        }
        return what < 5 ? hand[what] : what == 5 ? place.l - hand[1] : what == 6 ? strength(hand[2]) : place.lower[hand[0]];
    }

    boolean unknown(int s) {
        return s < 0 || s >= swingers.size();
    }

    int strength(int years) {
        int s = place.s;
        for (int i = 0; i < years; i++) {
            s = s - s * place.loss / 100;
        }
        return s;
    }

    // ---- swinging

    static long sin(long a) {
        if (a < 0) {
            return -sin(-a);
        }
        if (a > 1800) {
            a = 1800;
        }
        return 4000 * a * (1800 - a) / (4050000 - a * (1800 - a));
    }

    static long cos(long a) {
        return sin(900 - Math.min(1800, Math.abs(a)));
    }

    int sine(int a) {
        return a < -1800 || a > 1800 ? OUTSIDE : (int) sin(a);
    }

    Case now(int[] one) {
        Case c = new Case();
        c.length = place.l - hand[1];
        c.strength = strength(hand[2]);
        c.lower = place.lower[hand[0]];
        c.a = hand[3];
        c.v = hand[4];
        c.w = one[0];
        c.r = one[1];
        c.g = one[2];
        c.q = one[3];
        c.t = one[4];
        return c;
    }

    /** ANGLE, PACE, x, height, PULL, LEFT behind a TICK. */
    long[] hold(Case c, int t) {
        long angle = -1000 * c.a, pace = 2865L * c.v / c.length, left = 1000, pull = 0;
        for (int i = 0; i < t; i++) {
            pace -= 140 * sin(angle / 100) / c.length;
            angle += pace;
            pull = Math.max(0, c.w * (cos(angle / 100) / 10 + pace * pace * c.length / 80500000) / 100);
            left -= pull * 20 / c.g;
        }
        return new long[] {angle, pace, c.length * sin(angle / 100) / 1000, place.b - c.length * cos(angle / 100) / 1000, pull, left};
    }

    static int cellOf(long x) {
        return x < -300 ? 0 : (int) Math.min(23, (x + 300) / 50);
    }

    Result jump(Case c, int release) {
        Result r = new Result();
        long angle = -1000 * c.a, pace = 2865L * c.v / c.length, left = 1000;
        for (int tick = 1; ; tick++) {
            pace -= 140 * sin(angle / 100) / c.length;
            angle += pace;
            long x = c.length * sin(angle / 100) / 1000;
            long feet = place.b - c.length * cos(angle / 100) / 1000 - c.r;
            long pull = Math.max(0, c.w * (cos(angle / 100) / 10 + pace * pace * c.length / 80500000) / 100);
            left -= pull * 20 / c.g;
            r.held = tick;
            r.where = (int) x;
            if (pull > c.strength) {
                r.end = 7;
                return r;
            }
            if (left < 0 || tick >= release) {
                fly(r, c, 100 * x, 100 * feet, angle, pace, left < 0);
                return r;
            }
            if (pace < 0 && x < -place.t) {
                r.end = 6;
                return r;
            }
            if (feet < -c.lower && place.kind(cellOf(x)) == 0) {
                r.end = 8;
                return r;
            }
            if (tick == 200) {
                r.end = 0;
                return r;
            }
        }
    }

    private void fly(Result r, Case c, long x, long y, long angle, long pace, boolean slipped) {
        long u = pace * c.length / 573, across = u * cos(angle / 100) / 1000, up = u * sin(angle / 100) / 1000;
        long top = y;
        int kind;
        do {
            x += across;
            y += up;
            up -= 245;
            r.flown++;
            top = Math.max(top, y);
            kind = place.kind(cellOf(x / 100));
        } while (!(y <= (kind == 2 ? 0 : -100 * c.lower)));
        r.highest = (int) (top / 100);
        r.where = (int) (x / 100);
        r.turned = c.t * r.flown % 360;
        int depth = Math.max(0, place.d[cellOf(r.where)] - c.lower);
        boolean round = r.turned <= 30 || r.turned >= 330;
        r.end = slipped ? 5 : kind == 2 ? 1 : kind == 1 || depth < place.n ? 3 : round ? 2 : 4;
    }

    int holds(int s, int t, int what) {
        if (unknown(s)) {
            return UNKNOWN;
        }
        return t < 0 || t > 200 || what < 0 || what > 5 ? OUTSIDE : (int) hold(now(swingers.get(s)), t)[what];
    }

    int lands(int s, int time, int what) {
        if (unknown(s)) {
            return UNKNOWN;
        }
        if (time < 1 || time > 200 || what < 0 || what > 5) {
            return OUTSIDE;
        }
        Case c = now(swingers.get(s));
        Result r = jump(c, time + c.q);
        return new int[] {r.end, r.where, r.held, r.flown, r.highest, r.turned}[what];
    }

    // ---- times

    int best(int s, int what) {
        if (unknown(s)) {
            return UNKNOWN;
        }
        if (what < 0 || what > 1) {
            return OUTSIDE;
        }
        int best = NONE, most = Integer.MIN_VALUE;
        for (int time = 1; time <= 200; time++) {
            Case c = now(swingers.get(s));
            Result r = jump(c, time + c.q);
            int v = what == 0 ? r.where : r.highest;
            if (r.good() && v > most) {
                most = v;
                best = time;
            }
        }
        return best;
    }

    /** Length of the longest row, its first TIME, how many GOOD TIMES. */
    int[] row(Case c) {
        StringBuilder all = new StringBuilder();
        for (int time = 1; time <= 200; time++) {
            all.append(jump(c, time + c.q).good() ? 'g' : '.');
        }
        int many = all.toString().replace(".", "").length();
        for (int n = 200; n >= 1; n--) {
            int at = all.indexOf("g".repeat(n));
            if (at >= 0) {
                return new int[] {n, at + 1, many};
            }
        }
        return new int[] {0, NONE, 0};
    }

    int wide(int s, int what) {
        return unknown(s) ? UNKNOWN : what < 0 || what > 2 ? OUTSIDE : row(now(swingers.get(s)))[what];
    }

    int odds(int s, int time, int d) {
        if (unknown(s)) {
            return UNKNOWN;
        }
        if (time < 1 || time > 200 || d < 0 || d > 40) {
            return OUTSIDE;
        }
        Case c = now(swingers.get(s));
        int good = 0;
        for (int k = 0; k <= d; k++) {
            good += jump(c, time + c.q + k).good() ? 1 : 0;
        }
        return 1000000 * good / (d + 1);
    }

    // ---- who may

    int strong(int s, int t) {
        if (unknown(s)) {
            return UNKNOWN;
        }
        if (t < 1 || t > 200) {
            return OUTSIDE;
        }
        Case c = now(swingers.get(s));
        for (c.g = 10; c.g <= 300; c.g++) {
            if (hold(c, t)[5] >= 0) {
                return c.g;
            }
        }
        return NONE;
    }

    int heavy() {
        Case c = now(new int[] {10, 50, 10, 0, 0});
        int best = NONE;
        for (c.w = 10; c.w <= 150; c.w++) {
            boolean broken = false;
            for (int t = 1; t <= 200 && !broken; t++) {
                broken = hold(c, t)[4] > c.strength;
            }
            if (!broken) {
                best = c.w;
            }
        }
        return best;
    }

    int may() {
        int set = 0;
        for (int s = 0; s < swingers.size(); s++) {
            set |= row(now(swingers.get(s)))[2] > 0 ? 1 << s : 0;
        }
        return set;
    }

    int months(int s) {
        if (unknown(s)) {
            return UNKNOWN;
        }
        int set = 0;
        Case c = now(swingers.get(s));
        for (int m = 0; m < 12; m++) {
            c.lower = place.lower[m];
            set |= row(c)[2] > 0 ? 1 << m : 0;
        }
        return set;
    }

    int rope(int s, int what) {
        if (unknown(s)) {
            return UNKNOWN;
        }
        if (what < 0 || what > 2) {
            return OUTSIDE;
        }
        int[] best = {0, 0, -1};
        Case c = now(swingers.get(s));
        for (int l = 100; l <= 900; l += 50) {
            for (int k = 0; k <= 300; k += 50) {
                c.length = l - k;
                if (c.length >= 50 && row(c)[0] > best[2]) {
                    best = new int[] {l, k, row(c)[0]};
                }
            }
        }
        return best[what];
    }

    int turn(int s, int time) {
        if (unknown(s)) {
            return UNKNOWN;
        }
        if (time < 1 || time > 200) {
            return OUTSIDE;
        }
        Case c = now(swingers.get(s));
        for (c.t = 0; c.t <= 36; c.t++) {
            if (jump(c, time + c.q).end == 2) {
                return c.t;
            }
        }
        return NONE;
    }

    int film(int t, int a) {
        if (t < 1 || t > 200 || a < -180 || a > 180) {
            return OUTSIDE;
        }
        Case c = now(new int[] {10, 50, 10, 0, 0});
        int best = 0;
        long off = Long.MAX_VALUE;
        for (c.v = 0; c.v <= 600; c.v++) {
            long o = Math.abs(hold(c, t)[0] / 1000 - a);
            if (o < off) {
                off = o;
                best = c.v;
            }
        }
        return best;
    }

    int age(int s) {
        if (unknown(s)) {
            return UNKNOWN;
        }
        Case c = now(swingers.get(s));
        for (int y = 0; y <= 40; y++) {
            c.strength = strength(y);
            if (row(c)[2] == 0) {
                return y;
            }
        }
        return NONE;
    }

    // ---- measures, afternoons

    int harmed(int measures) {
        if (measures < 0 || measures > 63) {
            return OUTSIDE;
        }
        int set = 0;
        for (int s = 0; s < swingers.size(); s++) {
            int time = best(s, 0) == NONE ? 20 : best(s, 0);
            Case c = now(swingers.get(s));
            if ((measures & 1) != 0 && c.w < 30 || (measures & 2) != 0 && c.w > 90 || (measures & 32) != 0 && c.lower >= 50) {
                continue;
            }
            c.v = (measures & 4) != 0 ? 0 : c.v;
            c.strength = (measures & 8) != 0 ? place.s : c.strength;
            c.q = (measures & 16) != 0 ? 0 : c.q;
            set |= jump(c, time + c.q).good() ? 0 : 1 << s;
        }
        return set;
    }

    int enough() {
        for (int many = 0; many <= 6; many++) {
            for (int m = 0; m < 64; m++) {
                if (Integer.bitCount(m) == many && harmed(m) == 0) {
                    return m;
                }
            }
        }
        return NONE;
    }

    int seed(int v) {
        if (v < 0) {
            return OUTSIDE;
        }
        int was = (int) seed;
        seed = v;
        return was;
    }

    int draw(int n) {
        seed = (seed * 1103515245 + 12345) % (1L << 31);
        return (int) (seed / 65536 % n);
    }

    int afternoon(int n) {
        if (n < 1 || n > 40) {
            return OUTSIDE;
        }
        if (swingers.isEmpty()) {
            return NOT;
        }
        int good = 0;
        for (int i = 0; i < n; i++) {
            int[] one = swingers.get(draw(swingers.size()));
            Result r = jump(now(one), 1 + draw(60) + one[3]);
            ends[r.end]++;
            good += r.good() ? 1 : 0;
        }
        return good;
    }

    int ends(int end) {
        return end < 0 || end > 8 ? OUTSIDE : ends[end];
    }

    int keep(int i) {
        if (i < 0 || i > 1) {
            return UNKNOWN;
        }
        images[i] = new Kept();
        images[i].hand = hand.clone();
        images[i].ends = ends.clone();
        images[i].seed = seed;
        return 1;
    }

    int goBack(int i) {
        if (i < 0 || i > 1) {
            return UNKNOWN;
        }
        if (images[i] == null) {
            return NOT;
        }
        hand = images[i].hand.clone();
        hand[1] = Math.min(hand[1], place.l - 50);
        ends = images[i].ends.clone();
        seed = images[i].seed;
        return 1;
    }
}
