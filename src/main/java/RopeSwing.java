import java.util.Arrays;

/** A rope over a river: who swings, who lets go when, and where one lands. Promises: ../shared/DOC.md. */
public final class RopeSwing {
    public static final int NONE = -1, UNKNOWN = -1000000001, OUTSIDE = -1000000002, NOT = -1000000003, FULL = -1000000004;

    private static final int MILLION = 1000000;
    /** More than anything that is compared. */
    private static final int BEYOND = 2147483647;
    /** The last TICK of a swing, and the last TIME. */
    private static final int TICKS = 200;

    /** Numbers of THE PLACE, as told() counts them. */
    private static final int BOUGH = 0, ROPE = 1, STRENGTH = 2, LOSS = 3, BACK_BY = 4, RUN_TOLD = 5, TRUNK = 6, NEED = 7, SAND_FROM = 8;
    /** Numbers of a SWINGER, as who() counts them. */
    private static final int WEIGHT = 0, FEET = 1, GRIP = 2, LAG = 3, TURNING = 4;
    /** Numbers IN HAND, as set() counts them. */
    private static final int MONTH = 0, KNOT = 1, YEARS = 2, START = 3, RUN = 4;
    private static final int[] MOST_IN_HAND = {11, 300, 40, 80, 600};
    /** What a CELL is. */
    private static final int WATER = 0, STONES = 1, SAND = 2;
    private static final int HANGS = 0, OVER = 1, DEEP = 2, SHORT = 3, FLAT = 4, SLIPPED = 5, BACK = 6, BROKEN = 7, DRAGGED = 8;
    /** MEASURES, by their bits. */
    private static final int NOBODY_LIGHT = 1, NOBODY_HEAVY = 2, NO_RUN = 4, NEW_ROPE = 8, WORD_SAID = 16, NO_LOW_WATER = 32;
    private static final int ALL_MEASURES = 63;
    private static final int MOST_SWINGERS = 8, IMAGES = 2;

    private final Text text;
    private final Reader reader;
    private final Place place;
    private final Place draft;
    private final Swinger[] swingers;
    private int howMany;
    private final State state;
    private final State[] images;
    private final Pendulum pendulum;
    private final Path path;
    private final Jump jump;
    private final Times times;
    private final int[] farthest;
    private int faultAt;

    public RopeSwing() {
        text = new Text();
        reader = new Reader(text);
        place = new Place();
        draft = new Place();
        swingers = new Swinger[MOST_SWINGERS];
        for (int s = 0; s < swingers.length; s++) {
            swingers[s] = new Swinger();
        }
        state = new State();
        images = new State[IMAGES];
        for (int i = 0; i < images.length; i++) {
            images[i] = new State();
        }
        pendulum = new Pendulum();
        path = new Path();
        jump = new Jump(place, path);
        times = new Times();
        farthest = new int[MOST_SWINGERS];
        faultAt = NONE;
        state.begin(place);
    }

    // ---- texts

    public int feed(int n, long bytes) {
        if (n < 1 || n > 8) {
            return OUTSIDE;
        }
        if (text.length() + n > Text.MOST) {
            return FULL;
        }
        for (int i = n - 1; i >= 0; i--) {
            text.add((int) (bytes >>> 8 * i) & 255);
        }
        return text.length();
    }

    public int place() {
        draft.clear();
        boolean sound = reader.readPlace(draft);
        text.clear();
        faultAt = reader.faultAt();
        if (!sound) {
            return -10 - reader.faultNumber();
        }
        place.copy(draft);
        state.begin(place);
        return reader.clauses();
    }

    public int swinger() {
        if (text.length() > Swinger.MOST_BYTES) {
            return NOT;
        }
        Swinger next = howMany >= 0 && howMany < swingers.length ? swingers[howMany] : null;
        if (next == null) {
            return FULL;
        }
        // the next Swinger is not told yet, so a faulty text may spoil its numbers
        boolean sound = reader.readSwinger(next);
        text.clear();
        faultAt = reader.faultAt();
        if (!sound) {
            return -10 - reader.faultNumber();
        }
        howMany++;
        return howMany - 1;
    }

    public int fault() {
        return faultAt;
    }

    public int told(int what) {
        if (what < 0 || what > 10) {
            return OUTSIDE;
        }
        if (what == 9) {
            return howMany;
        }
        return what == 10 ? text.length() : place.number(what);
    }

    public int cell(int c, int what) {
        if (c < 0 || c >= Place.CELLS) {
            return UNKNOWN;
        }
        if (what < 0 || what > 2) {
            return OUTSIDE;
        }
        if (what == 2) {
            return place.kind(c);
        }
        return place.depth(c, what == 0 ? 0 : lowerNow());
    }

    public int who(int s, int what) {
        Swinger one = swingerAt(s);
        if (one == null) {
            return UNKNOWN;
        }
        return within(what, 0, Swinger.NUMBERS - 1) ? one.number(what) : OUTSIDE;
    }

    public int set(int what, int v) {
        if (!within(what, 0, MOST_IN_HAND.length - 1) || !within(v, 0, mostInHand(what))) {
            return OUTSIDE;
        }
        int was = state.inHand(what);
        state.take(what, v);
        return was;
    }

    public int now(int what) {
        if (what < 0 || what > 7) {
            return OUTSIDE;
        }
        switch (what) {
            case 5: return lengthNow();
            case 6: return strengthAfter(state.inHand(YEARS));
            case 7: return lowerNow();
            default: return state.inHand(what);
        }
    }

    // ---- swinging

    public int sine(int a) {
        return within(a, -1800, 1800) ? sineOf(a) : OUTSIDE;
    }

    public int holds(int s, int t, int what) {
        Swinger one = swingerAt(s);
        if (one == null) {
            return UNKNOWN;
        }
        if (!within(t, 0, TICKS) || !within(what, 0, 5)) {
            return OUTSIDE;
        }
        traceNow();
        switch (what) {
            case 0: return path.angle(t);
            case 1: return path.pace(t);
            case 2: return path.x(t);
            case 3: return path.height(t);
            case 4: return t == 0 ? 0 : path.pull(t, one.number(WEIGHT));
            default: return path.left(t, one.number(WEIGHT), one.number(GRIP));
        }
    }

    public int lands(int s, int time, int what) {
        Swinger one = swingerAt(s);
        if (one == null) {
            return UNKNOWN;
        }
        if (!within(time, 1, TICKS) || !within(what, 0, 5)) {
            return OUTSIDE;
        }
        ready(one);
        jump.letGo(time + jump.lag);
        switch (what) {
            case 0: return jump.end;
            case 1: return jump.where;
            case 2: return jump.heldTill;
            case 3: return jump.flown;
            case 4: return jump.highest;
            default: return jump.turned;
        }
    }

    // ---- times

    public int best(int s, int what) {
        Swinger one = swingerAt(s);
        if (one == null) {
            return UNKNOWN;
        }
        if (what < 0 || what > 1) {
            return OUTSIDE;
        }
        ready(one);
        times.scan(jump);
        return what == 0 ? times.farthest : times.highest;
    }

    public int wide(int s, int what) {
        Swinger one = swingerAt(s);
        if (one == null) {
            return UNKNOWN;
        }
        if (what < 0 || what > 2) {
            return OUTSIDE;
        }
        ready(one);
        times.scan(jump);
        if (what == 0) {
            return times.longest;
        }
        return what == 1 ? times.first : times.good;
    }

    public int odds(int s, int time, int d) {
        Swinger one = swingerAt(s);
        if (one == null) {
            return UNKNOWN;
        }
        if (!within(time, 1, TICKS) || !within(d, 0, 40)) {
            return OUTSIDE;
        }
        ready(one);
        int good = 0;
        for (int more = 0; more <= d; more++) {
            if (jump.endsGood(time + jump.lag + more)) {
                good++;
            }
        }
        return quotient(MILLION * good, d + 1);
    }

    // ---- who may

    public int strong(int s, int t) {
        Swinger one = swingerAt(s);
        if (one == null) {
            return UNKNOWN;
        }
        if (!within(t, 1, TICKS)) {
            return OUTSIDE;
        }
        traceNow();
        for (int grip = Swinger.least(GRIP); grip <= Swinger.most(GRIP); grip++) {
            if (path.left(t, one.number(WEIGHT), grip) >= 0) {
                return grip;
            }
        }
        return NONE;
    }

    public int heavy() {
        traceNow();
        int strength = strengthAfter(state.inHand(YEARS));
        for (int weight = Swinger.most(WEIGHT); weight >= Swinger.least(WEIGHT); weight--) {
            if (path.hardestPull(weight) <= strength) {
                return weight;
            }
        }
        return NONE;
    }

    public int may() {
        int may = 0;
        for (int s = 0; s < howMany; s++) {
            Swinger one = swingerAt(s);
            if (one != null) {
                ready(one);
                may |= jump.hasGoodTime() ? 1 << s : 0;
            }
        }
        return may;
    }

    public int months(int s) {
        Swinger one = swingerAt(s);
        if (one == null) {
            return UNKNOWN;
        }
        ready(one);
        int months = 0;
        for (int month = 0; month < Place.MONTHS; month++) {
            jump.lower = place.lower(month);
            jump.hold();
            months |= jump.hasGoodTime() ? 1 << month : 0;
        }
        return months;
    }

    public int rope(int s, int what) {
        Swinger one = swingerAt(s);
        if (one == null) {
            return UNKNOWN;
        }
        if (what < 0 || what > 2) {
            return OUTSIDE;
        }
        ready(one);
        int bestRope = 0;
        int bestKnot = 0;
        int longest = NONE;
        for (int rope = 100; rope <= 900; rope += 50) {
            // all comes from the LENGTH: a KNOT in a longer rope only tells a shorter one again
            for (int knot = 0; knot <= (rope == 100 ? 50 : 0); knot += 50) {
                path.trace(place.number(BOUGH), rope - knot, state.inHand(START), state.inHand(RUN));
                jump.hold();
                times.scan(jump);
                if (times.longest > longest) {
                    longest = times.longest;
                    bestRope = rope;
                    bestKnot = knot;
                }
            }
        }
        if (what == 0) {
            return bestRope;
        }
        return what == 1 ? bestKnot : longest;
    }

    public int turn(int s, int time) {
        Swinger one = swingerAt(s);
        if (one == null) {
            return UNKNOWN;
        }
        if (!within(time, 1, TICKS)) {
            return OUTSIDE;
        }
        ready(one);
        for (int turning = Swinger.least(TURNING); turning <= Swinger.most(TURNING); turning++) {
            jump.turning = turning;
            jump.letGo(time + jump.lag);
            if (jump.end == DEEP) {
                return turning;
            }
        }
        return NONE;
    }

    public int film(int t, int a) {
        if (!within(t, 1, TICKS) || !within(a, -180, 180)) {
            return OUTSIDE;
        }
        int nearest = 0;
        int least = BEYOND;
        for (int run = 0; run <= 600; run++) {
            pendulum.begin(lengthNow(), state.inHand(START), run);
            for (int tick = 1; tick <= t; tick++) {
                pendulum.swing();
            }
            int off = Math.abs(pendulum.angle / 1000 - a);
            if (off < least) {
                least = off;
                nearest = run;
            }
        }
        return nearest;
    }

    public int age(int s) {
        Swinger one = swingerAt(s);
        if (one == null) {
            return UNKNOWN;
        }
        ready(one);
        for (int years = 0; years <= 40; years++) {
            jump.strength = strengthAfter(years);
            jump.hold();
            if (!jump.hasGoodTime()) {
                return years;
            }
        }
        return NONE;
    }

    // ---- measures, afternoons

    public int harmed(int measures) {
        if (!within(measures, 0, ALL_MEASURES)) {
            return OUTSIDE;
        }
        findFarthest();
        return harmedBy(measures);
    }

    public int enough() {
        findFarthest();
        int fewest = BEYOND;
        int enough = NONE;
        for (int measures = 0; measures <= ALL_MEASURES; measures++) {
            int many = Integer.bitCount(measures);
            if (many < fewest && harmedBy(measures) == 0) {
                fewest = many;
                enough = measures;
            }
        }
        return enough;
    }

    public int seed(int v) {
        if (v < 0) {
            return OUTSIDE;
        }
        int was = state.seed;
        state.seed = v;
        return was;
    }

    public int afternoon(int n) {
        if (n < 1 || n > 40) {
            return OUTSIDE;
        }
        if (howMany == 0) {
            return NOT;
        }
        int good = 0;
        for (int i = 0; i < n; i++) {
            Swinger one = swingerAt(state.draw(howMany));
            int time = 1 + state.draw(60);
            if (one != null) {
                ready(one);
                jump.letGo(time + jump.lag);
                state.count(jump.end);
                good += isGood(jump.end) ? 1 : 0;
            }
        }
        return good;
    }

    public int ends(int end) {
        return within(end, HANGS, DRAGGED) ? state.counted(end) : OUTSIDE;
    }

    public int keep(int i) {
        State image = imageAt(i);
        if (image == null) {
            return UNKNOWN;
        }
        image.copy(state);
        image.kept = true;
        return 1;
    }

    public int goBack(int i) {
        State image = imageAt(i);
        if (image == null) {
            return UNKNOWN;
        }
        if (!image.kept) {
            return NOT;
        }
        state.copy(image);
        state.take(KNOT, Math.min(state.inHand(KNOT), mostInHand(KNOT)));
        return 1;
    }

    // ---- what the calls share

    private Swinger swingerAt(int s) {
        return s >= 0 && s < howMany && s < swingers.length ? swingers[s] : null;
    }

    private State imageAt(int i) {
        return i >= 0 && i < images.length ? images[i] : null;
    }

    /** The greatest value of what is IN HAND. */
    private int mostInHand(int what) {
        int most = at(MOST_IN_HAND, what);
        return what == KNOT ? Math.min(most, place.number(ROPE) - 50) : most;
    }

    private int lengthNow() {
        return place.number(ROPE) - state.inHand(KNOT);
    }

    private int lowerNow() {
        return place.lower(state.inHand(MONTH));
    }

    private int strengthAfter(int years) {
        int strength = place.number(STRENGTH);
        for (int year = 1; year <= years; year++) {
            strength -= strength * place.number(LOSS) / 100;
        }
        return strength;
    }

    private void traceNow() {
        path.trace(place.number(BOUGH), lengthNow(), state.inHand(START), state.inHand(RUN));
    }

    /** Makes the jump that of a SWINGER as all is IN HAND. */
    private void ready(Swinger one) {
        // traceNow() would make the deepest calls one deeper
        path.trace(place.number(BOUGH), lengthNow(), state.inHand(START), state.inHand(RUN));
        jump.strength = strengthAfter(state.inHand(YEARS));
        jump.lower = lowerNow();
        jump.suit(one);
        jump.hold();
    }

    /** Notes for each SWINGER the TIME that HARMED looks at: it stays that of no MEASURES. */
    private void findFarthest() {
        for (int s = 0; s < howMany; s++) {
            Swinger one = swingerAt(s);
            if (one != null) {
                ready(one);
                times.scan(jump);
                put(farthest, s, times.farthest == NONE ? 20 : times.farthest);
            }
        }
    }

    private int harmedBy(int measures) {
        int harmed = 0;
        for (int s = 0; s < howMany; s++) {
            Swinger one = swingerAt(s);
            if (one != null && !keptOut(one, measures) && comesToHarm(one, at(farthest, s), measures)) {
                harmed |= 1 << s;
            }
        }
        return harmed;
    }

    private boolean keptOut(Swinger one, int measures) {
        return (measures & NOBODY_LIGHT) != 0 && one.number(WEIGHT) < 30
            || (measures & NOBODY_HEAVY) != 0 && one.number(WEIGHT) > 90
            || (measures & NO_LOW_WATER) != 0 && lowerNow() >= 50;
    }

    private boolean comesToHarm(Swinger one, int time, int measures) {
        int run = (measures & NO_RUN) != 0 ? 0 : state.inHand(RUN);
        path.trace(place.number(BOUGH), lengthNow(), state.inHand(START), run);
        jump.strength = strengthAfter((measures & NEW_ROPE) != 0 ? 0 : state.inHand(YEARS));
        jump.lower = lowerNow();
        jump.suit(one);
        if ((measures & WORD_SAID) != 0) {
            jump.lag = 0;
        }
        jump.hold();
        return !jump.endsGood(time + jump.lag);
    }

    // ---- numbers

    private static boolean within(int v, int least, int most) {
        return v >= least && v <= most;
    }

    private static boolean isGood(int end) {
        return end == OVER || end == DEEP;
    }

    private static int quotient(int a, int b) {
        return b == 0 ? 0 : a / b;
    }

    private static int at(int[] row, int i) {
        return i >= 0 && i < row.length ? row[i] : 0;
    }

    private static void put(int[] row, int i, int v) {
        if (i >= 0 && i < row.length) {
            row[i] = v;
        }
    }

    private static int sineOf(int a) {
        long size = sizeOf(a);
        long both = size * (1800 - size);
        long divisor = 4050000 - both;
        if (divisor == 0) {
            return 0;
        }
        int sine = (int) (4000 * both / divisor);
        return a < 0 ? -sine : sine;
    }

    /** An angle in tenths of a degree without sign, beyond 1800 as 1800; COSINE is SINE of 900 less it. */
    private static int sizeOf(int a) {
        if (a < -1800 || a > 1800) {
            return 1800;
        }
        return a < 0 ? -a : a;
    }

    /** THE TEXT that was fed. */
    private static final class Text {
        private static final int MOST = 300;
        private final int[] bytes = new int[MOST];
        private int length;

        int length() {
            return length;
        }

        void add(int b) {
            if (length < MOST) {
                put(bytes, length, b);
                length++;
            }
        }

        /** The byte, NONE at the end. */
        int byteAt(int i) {
            return i >= 0 && i < length && i < bytes.length ? bytes[i] : NONE;
        }

        void clear() {
            length = 0;
        }
    }

    /** THE PLACE as it is told. */
    private static final class Place {
        private static final int CELLS = 24, MONTHS = 12;
        private static final int[] UNTOLD = {660, 450, 300, 10, 40, 100, 400, 150, 16};
        private static final int UNTOLD_DEPTH = 200;
        private final int[] numbers = new int[9];
        private final int[] depths = new int[CELLS];
        private final int[] stones = new int[CELLS];
        private final int[] lower = new int[MONTHS];

        Place() {
            clear();
        }

        void clear() {
            System.arraycopy(UNTOLD, 0, numbers, 0, Math.min(UNTOLD.length, numbers.length));
            Arrays.fill(depths, UNTOLD_DEPTH);
            Arrays.fill(stones, 0);
            Arrays.fill(lower, 0);
        }

        void copy(Place from) {
            System.arraycopy(from.numbers, 0, numbers, 0, Math.min(from.numbers.length, numbers.length));
            System.arraycopy(from.depths, 0, depths, 0, Math.min(from.depths.length, depths.length));
            System.arraycopy(from.stones, 0, stones, 0, Math.min(from.stones.length, stones.length));
            System.arraycopy(from.lower, 0, lower, 0, Math.min(from.lower.length, lower.length));
        }

        int number(int what) {
            return what >= 0 && what < numbers.length ? numbers[what] : 0;
        }

        int lower(int month) {
            return at(lower, month);
        }

        int depth(int c, int lowerBy) {
            int depth = c >= 0 && c < depths.length ? depths[c] - lowerBy : 0;
            return depth < 0 ? 0 : depth;
        }

        /** Sand goes ahead of stones: CELLS from there on are sand, whatever lies on them. */
        int kind(int c) {
            if (SAND_FROM < numbers.length && c >= numbers[SAND_FROM]) {
                return SAND;
            }
            return c >= 0 && c < stones.length && stones[c] != 0 ? STONES : WATER;
        }

        static int cellAt(int x) {
            return x < -300 ? 0 : Math.min((x + 300) / 50, CELLS - 1);
        }
    }

    private static final class Swinger {
        private static final int MOST_BYTES = 40, NUMBERS = 5;
        private static final int[] LEAST = {10, 50, 10, 0, 0};
        private static final int[] MOST = {150, 220, 300, 20, 36};
        private final int[] numbers = new int[NUMBERS];

        static int least(int what) {
            return at(LEAST, what);
        }

        static int most(int what) {
            return at(MOST, what);
        }

        int number(int what) {
            return at(numbers, what);
        }
    }

    /** Reads THE TEXT, up to the first FAULT. */
    private static final class Reader {
        /** What the token in hand is. */
        private static final int END = 0, WORD = 1, NUMBER = 2, SIGN = 3;
        private static final int CANNOT_STAND = 1, OUT_OF_BOUNDS = 2, AGAIN = 3, TOO_MANY = 4;
        private static final int WATER_CLAUSE = 6, STONES_CLAUSE = 7, MONTHS_CLAUSE = 8, CLAUSES = 9;
        /** The numbers of THE PLACE that a clause tells: from which on, how many (lists have none). */
        private static final int[] FROM = {BOUGH, ROPE, BACK_BY, TRUNK, NEED, SAND_FROM};
        private static final int[] MANY = {1, 3, 2, 1, 1, 1};
        private static final int[] LEAST = {200, 100, 20, 0, 0, 0, 50, 0, 1};
        private static final int[] MOST = {999, 900, 999, 99, 80, 600, 600, 300, 24};

        private final Text text;
        private int next;
        private int kind;
        private int start;
        private int value;
        private int faultNumber;
        private int faultAt;
        private int clauses;

        Reader(Text text) {
            this.text = text;
        }

        int faultNumber() {
            return faultNumber;
        }

        int faultAt() {
            return faultAt;
        }

        int clauses() {
            return clauses;
        }

        boolean readPlace(Place draft) {
            begin();
            int seen = 0;
            // one more round than there are clauses: the last finds the end, or a clause again
            for (int many = 0; many <= CLAUSES; many++) {
                take();
                if (kind == END) {
                    clauses = many;
                    return true;
                }
                int clause = clauseInHand();
                if (clause == NONE) {
                    return fail(CANNOT_STAND);
                }
                if ((seen >> clause & 1) == 1) {
                    return fail(AGAIN);
                }
                seen |= 1 << clause;
                if (!readClause(clause, draft)) {
                    return false;
                }
            }
            return fail(AGAIN);
        }

        boolean readSwinger(Swinger draft) {
            begin();
            for (int i = 0; i < Swinger.NUMBERS; i++) {
                if (!takeNumber(Swinger.least(i), Swinger.most(i))) {
                    return false;
                }
                put(draft.numbers, i, value);
            }
            take();
            return kind == END || fail(CANNOT_STAND);
        }

        private boolean readClause(int clause, Place draft) {
            switch (clause) {
                case WATER_CLAUSE: return readList(draft.depths, 600);
                case STONES_CLAUSE: return readStones(draft.stones);
                case MONTHS_CLAUSE: return readList(draft.lower, 300);
                default: return readNumbers(at(FROM, clause), at(MANY, clause), draft.numbers);
            }
        }

        private boolean readNumbers(int from, int many, int[] numbers) {
            for (int i = from; i < from + many; i++) {
                if (!takeNumber(at(LEAST, i), at(MOST, i))) {
                    return false;
                }
                put(numbers, i, value);
            }
            take();
            return isSign(';') || fail(CANNOT_STAND);
        }

        private boolean readList(int[] row, int most) {
            for (int i = 0; i <= row.length; i++) {
                if (!takeNumber(0, most)) {
                    return false;
                }
                if (i == row.length) {
                    return fail(TOO_MANY);
                }
                put(row, i, value);
                take();
                if (!isSign(',')) {
                    break;
                }
            }
            return isSign(';') || fail(CANNOT_STAND);
        }

        private boolean readStones(int[] stones) {
            // a CELL more than there are is out of bounds or there already
            for (int i = 0; i <= stones.length; i++) {
                if (!takeNumber(0, stones.length - 1)) {
                    return false;
                }
                if (at(stones, value) != 0) {
                    return fail(AGAIN);
                }
                put(stones, value, 1);
                take();
                if (!isSign(',')) {
                    break;
                }
            }
            return isSign(';') || fail(CANNOT_STAND);
        }

        private void begin() {
            next = 0;
            faultNumber = 0;
            faultAt = NONE;
        }

        private boolean fail(int number) {
            faultNumber = number;
            faultAt = start;
            return false;
        }

        private boolean takeNumber(int least, int most) {
            take();
            if (kind != NUMBER) {
                return fail(CANNOT_STAND);
            }
            return next - start <= 3 && within(value, least, most) || fail(OUT_OF_BOUNDS);
        }

        private boolean isSign(int sign) {
            return kind == SIGN && value == sign;
        }

        /** Takes the next word, NUMBER, sign or the end in hand. */
        private void take() {
            int end = text.length();
            while (next < end && text.byteAt(next) == ' ') {
                next++;
            }
            start = next;
            int first = text.byteAt(next);
            if (first == NONE) {
                kind = END;
            } else if (isLetter(first)) {
                kind = WORD;
                while (next < end && isLetter(text.byteAt(next))) {
                    next++;
                }
            } else if (isFigure(first)) {
                kind = NUMBER;
                value = 0;
                while (next < end && isFigure(text.byteAt(next))) {
                    // one of more figures is a FAULT, so its value does not matter
                    value = next - start < 3 ? 10 * value + text.byteAt(next) - '0' : value;
                    next++;
                }
            } else {
                kind = SIGN;
                value = first;
                next++;
            }
        }

        /** Which clause the word in hand begins: first those of FROM, then the lists; NONE. */
        private int clauseInHand() {
            if (kind != WORD) {
                return NONE;
            }
            for (int clause = 0; clause < CLAUSES; clause++) {
                if (isWord(nameOf(clause))) {
                    return clause;
                }
            }
            return NONE;
        }

        private static String nameOf(int clause) {
            switch (clause) {
                case 0: return "bough";
                case 1: return "rope";
                case 2: return "start";
                case 3: return "trunk";
                case 4: return "need";
                case 5: return "sand";
                case WATER_CLAUSE: return "water";
                case STONES_CLAUSE: return "stones";
                default: return "months";
            }
        }

        private boolean isWord(String name) {
            if (next - start != name.length()) {
                return false;
            }
            for (int i = 0; i < name.length(); i++) {
                if (text.byteAt(start + i) != name.charAt(i)) {
                    return false;
                }
            }
            return true;
        }

        private static boolean isLetter(int b) {
            return b >= 'a' && b <= 'z';
        }

        private static boolean isFigure(int b) {
            return b >= '0' && b <= '9';
        }
    }

    /** What an IMAGE keeps: what is IN HAND, THE SEED, the ENDS that were counted. */
    private static final class State {
        private final int[] inHand = new int[5];
        private final int[] ends = new int[DRAGGED + 1];
        private int seed;
        private boolean kept;

        /** A PLACE was told: what is IN HAND begins anew. */
        void begin(Place place) {
            take(MONTH, 0);
            take(KNOT, 0);
            take(YEARS, 0);
            take(START, place.number(BACK_BY));
            take(RUN, place.number(RUN_TOLD));
        }

        int inHand(int what) {
            return at(inHand, what);
        }

        void take(int what, int v) {
            put(inHand, what, v);
        }

        int draw(int n) {
            seed = (int) ((seed * 1103515245L + 12345L) % 2147483648L);
            return n < 1 ? 0 : seed / 65536 % n;
        }

        void count(int end) {
            put(ends, end, at(ends, end) + 1);
        }

        int counted(int end) {
            return at(ends, end);
        }

        void copy(State from) {
            System.arraycopy(from.inHand, 0, inHand, 0, Math.min(from.inHand.length, inHand.length));
            System.arraycopy(from.ends, 0, ends, 0, Math.min(from.ends.length, ends.length));
            seed = from.seed;
        }
    }

    /** The rope with one who holds on. */
    private static final class Pendulum {
        private int length;
        private int angle;
        private int pace;

        void begin(int ropeLength, int back, int run) {
            length = ropeLength;
            angle = -1000 * back;
            pace = quotient(2865 * run, length);
        }

        void swing() {
            pace -= quotient(140 * sineOf(angle / 100), length);
            angle += pace;
        }
    }

    /** All TICKS of one who holds on, whoever it is; traced anew only if something else is asked. */
    private static final class Path {
        private final Pendulum pendulum = new Pendulum();
        private final int[] angle = new int[TICKS + 1];
        private final int[] pace = new int[TICKS + 1];
        private final int[] x = new int[TICKS + 1];
        private final int[] height = new int[TICKS + 1];
        /** PULL on a weight of 100, below 0 too. */
        private final int[] load = new int[TICKS + 1];
        /** How a FLIGHT would begin, in hundredths a TICK. */
        private final int[] across = new int[TICKS + 1];
        private final int[] up = new int[TICKS + 1];
        private boolean traced;
        private int bough;
        private int length;
        private int back;
        private int run;

        void trace(int boughHeight, int ropeLength, int backBy, int runBy) {
            if (traced && bough == boughHeight && length == ropeLength && back == backBy && run == runBy) {
                return;
            }
            traced = true;
            bough = boughHeight;
            length = ropeLength;
            back = backBy;
            run = runBy;
            pendulum.begin(length, back, run);
            note(0);
            for (int t = 1; t <= TICKS; t++) {
                pendulum.swing();
                note(t);
            }
        }

        private void note(int t) {
            int sine = sineOf(pendulum.angle / 100);
            int cosine = sineOf(900 - sizeOf(pendulum.angle / 100));
            int speed = pendulum.pace * length / 573;
            long pull = (long) pendulum.pace * pendulum.pace * length / 80500000;
            put(angle, t, pendulum.angle);
            put(pace, t, pendulum.pace);
            put(x, t, length * sine / 1000);
            put(height, t, bough - length * cosine / 1000);
            put(load, t, cosine / 10 + (int) pull);
            put(across, t, speed * cosine / 1000);
            put(up, t, speed * sine / 1000);
        }

        int angle(int t) {
            return at(angle, t);
        }

        int pace(int t) {
            return at(pace, t);
        }

        int x(int t) {
            return at(x, t);
        }

        int height(int t) {
            return at(height, t);
        }

        int across(int t) {
            return at(across, t);
        }

        int up(int t) {
            return at(up, t);
        }

        int pull(int t, int weight) {
            return Math.max(0, weight * at(load, t) / 100);
        }

        /** LEFT of the grip behind a TICK. */
        int left(int t, int weight, int grip) {
            int left = 1000;
            for (int tick = 1; tick <= t; tick++) {
                left -= quotient(20 * pull(tick, weight), grip);
            }
            return left;
        }

        int hardestPull(int weight) {
            int most = 0;
            for (int t = 1; t <= TICKS; t++) {
                most = Math.max(most, pull(t, weight));
            }
            return most;
        }
    }

    /** One SWINGER on the traced path: what would stop the swing, and the FLIGHT from a TICK on. */
    private static final class Jump {
        private static final int MOST_FLIGHT = 400;
        private final Place place;
        private final Path path;
        private int strength;
        private int lower;
        private int weight;
        private int feet;
        private int grip;
        private int lag;
        private int turning;
        /** Behind which TICK the swing of one who never lets go ends, and how. */
        private int stop;
        private int stopEnd;
        private int end;
        private int where;
        private int heldTill;
        private int flown;
        private int highest;
        private int turned;

        Jump(Place place, Path path) {
            this.place = place;
            this.path = path;
        }

        void suit(Swinger one) {
            weight = one.number(WEIGHT);
            feet = one.number(FEET);
            grip = one.number(GRIP);
            lag = one.number(LAG);
            turning = one.number(TURNING);
        }

        /** Finds what stops one who never lets go; letGo() builds on it for every TICK. */
        void hold() {
            int left = 1000;
            stop = TICKS;
            stopEnd = HANGS;
            for (int t = 1; t <= TICKS; t++) {
                int pull = path.pull(t, weight);
                left -= quotient(20 * pull, grip);
                int why = stopsBehind(t, pull, left);
                if (why != HANGS) {
                    stop = t;
                    stopEnd = why;
                    return;
                }
            }
        }

        private int stopsBehind(int t, int pull, int left) {
            if (pull > strength) {
                return BROKEN;
            }
            if (left < 0) {
                return SLIPPED;
            }
            int x = path.x(t);
            if (path.pace(t) < 0 && x < -place.number(TRUNK)) {
                return BACK;
            }
            boolean under = path.height(t) - feet < -lower;
            return under && place.kind(Place.cellAt(x)) == WATER ? DRAGGED : HANGS;
        }

        /** At the TICK of the stop itself, letting go comes behind BROKEN and SLIPPED, ahead of the others. */
        private boolean canLetGo(int tick) {
            return tick < stop || tick == stop && stopEnd != BROKEN && stopEnd != SLIPPED;
        }

        /** Letting go at a TICK, or what ends the swing ahead of it. */
        void letGo(int tick) {
            if (canLetGo(tick)) {
                fly(tick);
            } else if (stopEnd == SLIPPED) {
                fly(stop);
                end = end == HANGS ? HANGS : SLIPPED;
            } else {
                heldTill = stop;
                where = path.x(stop);
                flown = 0;
                highest = 0;
                turned = 0;
                end = stopEnd;
            }
        }

        private void fly(int tick) {
            heldTill = tick;
            int x = 100 * path.x(tick);
            int y = 100 * (path.height(tick) - feet);
            int across = path.across(tick);
            int up = path.up(tick);
            int top = y;
            int ticks = 0;
            boolean landed = false;
            while (ticks < MOST_FLIGHT && !landed) {
                ticks++;
                x += across;
                y += up;
                up -= 245;
                top = y > top ? y : top;
                landed = y <= 0 && (y <= -100 * lower || place.kind(Place.cellAt(x / 100)) == SAND);
            }
            flown = ticks;
            where = landed ? x / 100 : path.x(tick);
            highest = top / 100;
            turned = turning * flown % 360;
            end = landed ? landing(Place.cellAt(where)) : HANGS;
        }

        private int landing(int c) {
            int kind = place.kind(c);
            if (kind == SAND) {
                return OVER;
            }
            if (kind == STONES || place.depth(c, lower) < place.number(NEED)) {
                return SHORT;
            }
            return turned <= 30 || turned >= 330 ? DEEP : FLAT;
        }

        boolean endsGood(int tick) {
            if (!canLetGo(tick)) {
                return false;
            }
            fly(tick);
            return isGood(end);
        }

        boolean hasGoodTime() {
            for (int time = 1; time <= TICKS; time++) {
                if (endsGood(time + lag)) {
                    return true;
                }
            }
            return false;
        }
    }

    /** What all TIMES of a jump come to. */
    private static final class Times {
        private int farthest;
        private int highest;
        private int longest;
        private int first;
        private int good;

        void scan(Jump jump) {
            farthest = NONE;
            highest = NONE;
            longest = 0;
            first = NONE;
            good = 0;
            int greatestX = 0;
            int greatestHeight = 0;
            int row = 0;
            for (int time = 1; time <= TICKS; time++) {
                if (!jump.endsGood(time + jump.lag)) {
                    row = 0;
                    continue;
                }
                good++;
                row++;
                if (row > longest) {
                    longest = row;
                    first = time - row + 1;
                }
                if (farthest == NONE || jump.where > greatestX) {
                    farthest = time;
                    greatestX = jump.where;
                }
                if (highest == NONE || jump.highest > greatestHeight) {
                    highest = time;
                    greatestHeight = jump.highest;
                }
            }
        }
    }
}
