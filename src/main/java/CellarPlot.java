/**
 * Men in a cellar, what sound they make by the clauses of a charter, and how
 * afraid those above are by it. ../shared/DOC.md tells what each call does.
 */
public final class CellarPlot {
    public static final int NONE = -1, BAD = -2, STATE = -3, FULL = -4;
    public static final long NO = Long.MIN_VALUE;

    private static final int NOTHING = -11, CAST = -12, PLACE = -13, SIZE = -14;
    /** Stands for NONE where an answer may be below 0. */
    private static final int NONE_BELOW = -10001;
    private static final int NEVER = -5;

    private static final int MAN = 0, COOK = 1, STOKER = 2, SLEEPER = 3, CELLARMAN = 4, DANCER = 5, TOLD = 6;
    private static final int KINDS = 7;
    private static final int MOST_MEN = 6, MOST_V = 9, MOST_NERVE = 20, MOST_ROW = 9, PARTS = 4;

    /** The bound of numbers that are so; what is asked goes beyond it, and comes nowhere near UNBOUND. */
    private static final int MOST_SO = 9999, UNBOUND = 1_000_000;
    private static final int TRUTH_FEAR = 100, SILENCE_FEAR = 50, CALM_WITHOUT = 10;

    private static final int MOST_DAYS = 60, MOST_BEST_DAYS = 12, MOST_HEARD_DAYS = 12, MOST_ODDS_DAYS = 20;
    private static final int MOST_SOUND = 999, MOST_HEARD = 5, MOST_PLAN = 10, MOST_BOOK = 8;

    private static final int MOST_SIGNS = 100, LAST_SIGN = 127, MOST_CHARTERS = 6, MOST_CLAUSES = 10, MOST_WITHIN = 4;
    private static final int LOUD = 0, HUSH = 1, CALM = 2;
    /** The letters of a TEST; a letter's place here is its number in a Charter. */
    private static final String LETTERS = "pkvnad";
    private static final int LETTER_COUNT = 6, NOT = 6, AND = 7, OR = 8;
    private static final int NO_FAULT = -1;

    private static final int PLAN_DAY = 0, PLAN_UP = 1, PLAN_DOWN = 2, PLAN_CALMED = 3;
    private static final int ROLLS = 0, HUMS = 1, TELLS = 2, MOST_TRACE = 20;

    private static final int TAPES = 6, MOST_ITEMS = 60;
    private static final int EMPTY = -1, BYTES = 0, SHORTS = 1, INTS = 2, LONGS = 3, BOOLEANS = 4;

    private final Cellar now = new Cellar();
    private final Cellar kept = new Cellar();
    /** One for all questions, as each begins by copying how all is into it. */
    private final Cellar trial = new Cellar();
    private final Text text = new Text();
    private final Acts acts = new Acts();
    private final Tape[] tapes = new Tape[TAPES];
    private final int[] watched = new int[MOST_MEN];
    private int charters;
    /** The next one to read into: one that a fault left behind is used again. */
    private Charter spare;
    private boolean isKept;

    public CellarPlot() {
        for (int i = 0; i < TAPES; i++) {
            tapes[i] = new Tape();
        }
    }

    // ---- men, charters

    public int man(int kind, int v, int nerve) {
        if (!isWithin(kind, KINDS - 1)) {
            return NONE;
        }
        if (!isWithin(v, MOST_V) || !isWithin(nerve, MOST_NERVE)) {
            return BAD;
        }
        return now.men >= MOST_MEN ? FULL : now.add(kind, v, nerve);
    }

    public int of(int man, int what) {
        if (!now.has(man)) {
            return NONE_BELOW;
        }
        switch (what) {
            case 0: return now.kind[man];
            case 1: return now.v[man];
            case 2: return now.nerve[man];
            case 3: return now.isUp(man) ? 1 : 0;
            case 4: return now.spell[man];
            case 5: return now.noise(man);
            case 6: return likelyNerves(man);
            default: return NONE_BELOW;
        }
    }

    public int steady(int man, int n) {
        if (!now.has(man)) {
            return NONE;
        }
        if (!isWithin(n, MOST_NERVE)) {
            return BAD;
        }
        int was = now.nerve[man];
        now.nerve[man] = n;
        return was;
    }

    public int change(int man, boolean isUp) {
        if (!now.has(man)) {
            return NONE;
        }
        boolean was = now.isUp(man);
        now.put(man, isUp);
        return was ? 1 : 0;
    }

    public int fear(int n) {
        if (!isWithin(n, MOST_SO)) {
            return BAD;
        }
        int was = now.fear;
        now.fear = n;
        return was;
    }

    public int row(int man, int part, int n) {
        if (!now.has(man) || !isWithin(part, PARTS - 1)) {
            return NONE;
        }
        if (!isWithin(n, MOST_ROW)) {
            return BAD;
        }
        if (now.kind[man] != TOLD) {
            return STATE;
        }
        int place = man * PARTS + part;
        int was = now.rows[place];
        now.rows[place] = n;
        return was;
    }

    public int feed(int sign) {
        if (!isWithin(sign, LAST_SIGN)) {
            return BAD;
        }
        return text.length >= MOST_SIGNS ? FULL : text.add(sign);
    }

    public int charter() {
        if (charters >= MOST_CHARTERS) {
            return FULL;
        }
        if (spare == null) {
            spare = new Charter();
        }
        int fault = text.readInto(spare);
        text.length = 0;
        if (fault != NO_FAULT) {
            return -10 - fault;
        }
        now.charter = spare;
        spare = null;
        charters++;
        return charters - 1;
    }

    public int told(int what) {
        switch (what) {
            case 0: return now.day;
            case 1: return now.calm();
            case 2: return now.fear;
            case 3: return now.truths;
            case 4: return now.silences;
            case 5: return now.sound();
            case 6: return now.up;
            case 7: return hushed();
            case 8: return apart(watch());
            case 9: return watch();
            default: return NONE;
        }
    }

    // ---- days, changing over

    public int pass(int n) {
        if (!isWithin(n, MOST_DAYS)) {
            return BAD;
        }
        if (now.day + n > MOST_SO) {
            return STATE;
        }
        now.passDays(n, MOST_SO);
        return now.day;
    }

    public int on(int n, int what) {
        if (!isWithin(what, 3)) {
            return NONE;
        }
        if (!isWithin(n, MOST_DAYS)) {
            return BAD;
        }
        Cellar then = begin();
        then.passDays(n, UNBOUND);
        switch (what) {
            case 0: return then.fear;
            case 1: return then.truths;
            case 2: return then.silences;
            default: return then.sound();
        }
    }

    public int best(int n, int what) {
        if (!isWithin(what, 2)) {
            return NONE;
        }
        if (n < 1 || n > MOST_BEST_DAYS) {
            return BAD;
        }
        switch (what) {
            case 0: return bestUp(n);
            case 1: return truthsBehind(n, bestUp(n));
            default: return fright(n);
        }
    }

    // ---- heard, odds

    public int hear(int n, int sound) {
        if (n == -1) {
            return now.heard.empty();
        }
        if (!isWithin(n, MOST_HEARD_DAYS) || !isWithin(sound, MOST_SOUND)) {
            return BAD;
        }
        return now.heard.isFull() ? FULL : now.heard.add(n, sound);
    }

    public int can(int man, int what) {
        if (!now.has(man) || !isWithin(what, 1)) {
            return NONE;
        }
        int likely = likelyNumbers(man);
        return what == 0 ? Integer.bitCount(likely) : leastOf(likely);
    }

    public long odds(int n, int part) {
        if (!isWithin(n, MOST_ODDS_DAYS) || !isWithin(part, 1) || now.men == 0) {
            return NO;
        }
        int more = 0;
        for (int man = 0; man < now.men; man++) {
            if (truthsBehind(n, now.up ^ (1 << man)) > now.truths) {
                more++;
            }
        }
        return lowest(more, now.men, part);
    }

    public long mean(int part) {
        int below = 0;
        int nerves = 0;
        for (int man = 0; man < now.men; man++) {
            if (!now.isUp(man)) {
                below++;
                nerves += now.nerve[man];
            }
        }
        return !isWithin(part, 1) || below == 0 ? NO : lowest(nerves, below, part);
    }

    // ---- plans, books

    public int plan(int what, int man) {
        if (what == -1) {
            return now.plan.empty();
        }
        if (!isWithin(what, PLAN_CALMED)) {
            return NONE;
        }
        if ((what == PLAN_UP || what == PLAN_DOWN) && !now.has(man)) {
            return NONE;
        }
        return now.plan.isFull() ? FULL : now.plan.add(what, man);
    }

    public int ends(int what) {
        if (!isWithin(what, 1)) {
            return NONE;
        }
        Cellar then = begin();
        for (int i = 0; i < now.plan.count; i++) {
            follow(then, now.plan.first[i], now.plan.second[i]);
        }
        return what == 0 ? then.fear : then.truths;
    }

    public int book(int man, int nerve) {
        if (man == -1) {
            return now.book.empty();
        }
        if (!now.has(man)) {
            return NONE;
        }
        if (!isWithin(nerve, MOST_NERVE)) {
            return BAD;
        }
        return now.book.isFull() ? FULL : now.book.add(man, nerve);
    }

    public int looked() {
        for (int i = 0; i < now.book.count; i++) {
            int man = now.book.first[i];
            if (now.has(man) && now.nerve[man] != now.book.second[i]) {
                return i;
            }
        }
        return NEVER;
    }

    // ---- judging, the image, acts, tapes

    public int judge(int tape, int i) {
        if (!isWithin(tape, TAPES - 1)) {
            return NONE;
        }
        Tape told = tapes[tape];
        if (told.sort != EMPTY && told.sort != INTS) {
            return CAST;
        }
        for (int man = 0; man < now.men; man++) {
            // i + man is looked at as a difference, as the sum may wrap.
            if (i < 0 || i >= told.size - man) {
                return 100 + man;
            }
            if (told.items[i + man] != now.spell[man]) {
                return man;
            }
        }
        return NEVER;
    }

    public int image() {
        kept.copyAll(now);
        isKept = true;
        return now.men;
    }

    public int undo() {
        if (!isKept) {
            return STATE;
        }
        now.copyAll(kept);
        return now.men;
    }

    public int act(int man, int act, int x) {
        acts.ran = 0;
        if (!now.has(man) || !isWithin(act, TELLS)) {
            return 0;
        }
        return acts.run(act, man, now.kind[man], now.v[man], x);
    }

    public int trace(int i) {
        return isWithin(i, Math.min(acts.ran, MOST_TRACE) - 1) ? acts.bodies[i] : NONE;
    }

    public int taken(int man, int k) {
        if (!isWithin(k, KINDS - 1)) {
            return BAD;
        }
        if (!now.has(man)) {
            return NOTHING;
        }
        return isUnder(now.kind[man], k) ? now.kind[man] : CAST;
    }

    public int count(int what) {
        switch (what) {
            case 0: return now.men;
            case 1: return charters;
            case 2: return now.heard.count;
            case 3: return now.plan.count;
            case 4: return now.book.count;
            case 5: return text.length;
            case 6: return acts.ran;
            default: return BAD;
        }
    }

    public int tape(int tape, int sort, int n) {
        if (!isWithin(tape, TAPES - 1)) {
            return NONE;
        }
        if (sort < EMPTY || sort > BOOLEANS || (sort != EMPTY && n > MOST_ITEMS)) {
            return BAD;
        }
        if (sort != EMPTY && n < 0) {
            return SIZE;
        }
        tapes[tape].become(sort, sort == EMPTY ? 0 : n);
        return 1;
    }

    public int item(int tape, int i, long v) {
        if (!isWithin(tape, TAPES - 1)) {
            return NONE;
        }
        Tape one = tapes[tape];
        if (one.sort == EMPTY) {
            return NOTHING;
        }
        if (!isWithin(i, one.size - 1)) {
            return PLACE;
        }
        one.items[i] = fitted(one.sort, v);
        return 1;
    }

    public long read(int tape, int i) {
        if (!isWithin(tape, TAPES - 1)) {
            return NO;
        }
        Tape one = tapes[tape];
        return isWithin(i, one.size - 1) ? one.items[i] : NO;
    }

    public int shift(int tape, int i, int other, int j, int n) {
        if (!isWithin(tape, TAPES - 1) || !isWithin(other, TAPES - 1)) {
            return NONE;
        }
        Tape from = tapes[tape];
        Tape to = tapes[other];
        if (from.sort == EMPTY || to.sort == EMPTY) {
            return NOTHING;
        }
        if (from.sort != to.sort) {
            return CAST;
        }
        if (!from.hasRun(i, n) || !to.hasRun(j, n)) {
            return PLACE;
        }
        System.arraycopy(from.items, i, to.items, j, n);
        return n;
    }

    // ---- what the calls above ask

    private static boolean isWithin(int n, int most) {
        return n >= 0 && n <= most;
    }

    private Cellar begin() {
        trial.copyDays(now);
        return trial;
    }

    private int hushed() {
        Cellar then = begin();
        for (int n = 0; n <= MOST_DAYS; n++) {
            int sound = then.sound();
            if (sound == 0) {
                return n;
            }
            then.passDay(sound, UNBOUND);
        }
        return NEVER;
    }

    private int truthsBehind(int n, int up) {
        Cellar then = begin();
        then.up = up;
        for (int day = 0; day < n; day++) {
            then.passDay(then.sound(), UNBOUND);
        }
        return then.truths;
    }

    private int bestUp(int n) {
        int best = 0;
        int most = truthsBehind(n, 0);
        for (int up = 1; up <= now.all(); up++) {
            int truths = truthsBehind(n, up);
            if (truths > most || (truths == most && Integer.bitCount(up) < Integer.bitCount(best))) {
                best = up;
                most = truths;
            }
        }
        return best;
    }

    private int fright(int n) {
        int best = NEVER;
        for (int below = 0; below <= now.all(); below++) {
            boolean isFewer = best == NEVER || Integer.bitCount(below) < Integer.bitCount(best);
            if (isFewer && truthsBehind(n, now.all() & ~below) > now.truths) {
                best = below;
            }
        }
        return best;
    }

    private int watch() {
        for (int man = 0; man < now.men; man++) {
            watched[man] = now.isUp(man) ? 0 : Math.max(0, now.noise(man));
        }
        int below = now.all() & ~now.up;
        int least = below & -below;
        int best = 0;
        for (int one = least; one <= below; one++) {
            boolean isWay = (one & ~below) == 0 && (one & least) != 0;
            if (isWay && (best == 0 || apart(one) < apart(best))) {
                best = one;
            }
        }
        return best;
    }

    /** By the noises that watch() has looked at last. */
    private int apart(int one) {
        int apart = 0;
        for (int man = 0; man < now.men; man++) {
            apart += (one >> man & 1) != 0 ? watched[man] : -watched[man];
        }
        return Math.abs(apart);
    }

    private int likelyNerves(int man) {
        int bits = 0;
        for (int n = 0; n <= MOST_NERVE; n++) {
            Cellar then = begin();
            then.nerve[man] = n;
            if (isAsHeard(then)) {
                bits |= 1 << n;
            }
        }
        return bits;
    }

    private int likelyNumbers(int man) {
        int bits = 0;
        for (int v = 0; v <= MOST_V; v++) {
            Cellar then = begin();
            then.v[man] = v;
            if (isAsHeard(then)) {
                bits |= 1 << v;
            }
        }
        return bits;
    }

    private boolean isAsHeard(Cellar then) {
        int last = now.heard.greatestFirst();
        for (int day = 0; day <= last; day++) {
            int sound = then.sound();
            for (int i = 0; i < now.heard.count; i++) {
                if (now.heard.first[i] == day && now.heard.second[i] != sound) {
                    return false;
                }
            }
            then.passDay(sound, UNBOUND);
        }
        return true;
    }

    private static int leastOf(int bits) {
        for (int n = 0; n <= MOST_V; n++) {
            if ((bits >> n & 1) != 0) {
                return n;
            }
        }
        return NEVER;
    }

    /** The fraction's part 0 or 1 in lowest terms; below is 1 or more. */
    private static long lowest(int above, int below, int part) {
        int whole = part == 0 ? above : below;
        for (int by = below; by > 1; by--) {
            if (above % by == 0 && below % by == 0) {
                return whole / by;
            }
        }
        return whole;
    }

    private static void follow(Cellar then, int what, int man) {
        switch (what) {
            case PLAN_DAY: then.passDays(1, UNBOUND); break;
            case PLAN_UP: then.put(man, true); break;
            case PLAN_DOWN: then.put(man, false); break;
            default: then.fear = 0; break;
        }
    }

    private static boolean isUnder(int kind, int k) {
        int at = kind;
        for (int step = 0; step < KINDS && at >= 0; step++) {
            if (at == k) {
                return true;
            }
            at = above(at);
        }
        return false;
    }

    private static int above(int kind) {
        switch (kind) {
            case COOK: case STOKER: case SLEEPER: return MAN;
            case CELLARMAN: return COOK;
            case DANCER: return STOKER;
            case TOLD: return SLEEPER;
            default: return NONE;
        }
    }

    private static long fitted(int sort, long v) {
        switch (sort) {
            case BYTES: return (byte) v;
            case SHORTS: return (short) v;
            case INTS: return (int) v;
            case LONGS: return v;
            default: return v != 0 ? 1 : 0;
        }
    }

    /** How all is: the one that is so, THE IMAGE, or one that goes on in a question. */
    private static final class Cellar {
        int men, up, fear, truths, silences, day;
        /** The one that holds; null without one. */
        Charter charter;
        final int[] kind = new int[MOST_MEN];
        final int[] v = new int[MOST_MEN];
        final int[] nerve = new int[MOST_MEN];
        final int[] spell = new int[MOST_MEN];
        final int[] rows = new int[MOST_MEN * PARTS];
        final Rows heard = new Rows(MOST_HEARD);
        final Rows plan = new Rows(MOST_PLAN);
        final Rows book = new Rows(MOST_BOOK);
        /** What the LETTERS stand for, used again for each MAN. */
        private final int[] values = new int[LETTER_COUNT];

        boolean has(int man) {
            return man >= 0 && man < men;
        }

        boolean isUp(int man) {
            return (up >> man & 1) != 0;
        }

        int all() {
            return (1 << men) - 1;
        }

        /** There is room for it. */
        int add(int newKind, int newV, int newNerve) {
            int man = men;
            kind[man] = newKind;
            v[man] = newV;
            nerve[man] = newNerve;
            spell[man] = 0;
            put(man, false);
            for (int part = 0; part < PARTS; part++) {
                rows[man * PARTS + part] = 0;
            }
            men++;
            return man;
        }

        void put(int man, boolean isUp) {
            up = isUp ? up | 1 << man : up & ~(1 << man);
        }

        int calm() {
            return charter == null ? CALM_WITHOUT : charter.calm;
        }

        int noise(int man) {
            int sum = (charter == null ? 0 : charter.sumBy(valuesOf(man))) - nerve[man] / 4;
            int asSleeper = day % 7 == 0 ? 0 : sum;
            int asStoker = sum / 2 + 3;
            switch (kind[man]) {
                case COOK: return sum + v[man];
                case STOKER: return asStoker;
                case SLEEPER: return asSleeper;
                case CELLARMAN: return sum + v[man] - Math.min(spell[man], 9);
                case DANCER: return isDancingWith(man) ? asStoker * 2 : asStoker;
                case TOLD: return asSleeper + rows[man * PARTS + day % PARTS];
                default: return sum;
            }
        }

        private boolean isDancingWith(int man) {
            for (int other = 0; other < men; other++) {
                if (other != man && kind[other] == DANCER && !isUp(other)) {
                    return true;
                }
            }
            return false;
        }

        private int[] valuesOf(int man) {
            values[0] = man;
            values[1] = kind[man];
            values[2] = v[man];
            values[3] = nerve[man];
            values[4] = spell[man] % 10;
            values[5] = day % 7;
            return values;
        }

        int sound() {
            int sound = 0;
            for (int man = 0; man < men; man++) {
                if (!isUp(man)) {
                    sound += Math.max(0, noise(man));
                }
            }
            return sound;
        }

        void passDays(int n, int most) {
            for (int i = 0; i < n; i++) {
                passDay(sound(), most);
            }
        }

        /** The sound is the one ahead of the day; most is the bound of all but FEAR. */
        void passDay(int sound, int most) {
            if (sound == 0) {
                silences = Math.min(silences + 1, most);
                fear += SILENCE_FEAR;
            } else {
                fear = Math.max(0, fear + sound - calm());
            }
            fear = Math.min(fear, MOST_SO);
            if (fear >= TRUTH_FEAR) {
                truths = Math.min(truths + 1, most);
                fear /= 2;
            }
            for (int man = 0; man < men; man++) {
                spell[man] = isUp(man) ? 0 : Math.min(spell[man] + 1, most);
            }
            day++;
        }

        /** All that days go by. */
        void copyDays(Cellar from) {
            men = from.men;
            up = from.up;
            fear = from.fear;
            truths = from.truths;
            silences = from.silences;
            day = from.day;
            charter = from.charter;
            System.arraycopy(from.kind, 0, kind, 0, MOST_MEN);
            System.arraycopy(from.v, 0, v, 0, MOST_MEN);
            System.arraycopy(from.nerve, 0, nerve, 0, MOST_MEN);
            System.arraycopy(from.spell, 0, spell, 0, MOST_MEN);
            System.arraycopy(from.rows, 0, rows, 0, MOST_MEN * PARTS);
        }

        void copyAll(Cellar from) {
            copyDays(from);
            heard.copy(from.heard);
            plan.copy(from.plan);
            book.copy(from.book);
        }
    }

    /** Pairs of numbers told by hand. */
    private static final class Rows {
        int count;
        final int[] first;
        final int[] second;

        Rows(int most) {
            first = new int[most];
            second = new int[most];
        }

        boolean isFull() {
            return count >= first.length;
        }

        int empty() {
            count = 0;
            return 0;
        }

        /** There is room for it. */
        int add(int one, int other) {
            first[count] = one;
            second[count] = other;
            count++;
            return count;
        }

        int greatestFirst() {
            int greatest = -1;
            for (int i = 0; i < count; i++) {
                greatest = Math.max(greatest, first[i]);
            }
            return greatest;
        }

        /** From one of the same length. */
        void copy(Rows from) {
            count = from.count;
            System.arraycopy(from.first, 0, first, 0, count);
            System.arraycopy(from.second, 0, second, 0, count);
        }
    }

    /**
     * Clauses, each E as steps behind one another (what is tested ahead of the
     * NOT, AND, OR over it), so that holding is a plain loop without recursion.
     */
    private static final class Charter {
        int calm;
        private int clauses;
        private int steps;
        private final int[] sort = new int[MOST_CLAUSES];
        private final int[] number = new int[MOST_CLAUSES];
        private final int[] end = new int[MOST_CLAUSES];
        /** A place in LETTERS, or NOT, AND, OR. No step takes less than one sign of THE TEXT. */
        private final int[] does = new int[MOST_SIGNS];
        /** Of a TEST, the least and the most that the letter's number may be. */
        private final int[] low = new int[MOST_SIGNS];
        private final int[] high = new int[MOST_SIGNS];

        void clear() {
            calm = CALM_WITHOUT;
            clauses = 0;
            steps = 0;
        }

        boolean addTest(int letter, int sign, int n) {
            if (!addStep(letter)) {
                return false;
            }
            low[steps - 1] = sign == '<' ? 0 : sign == '>' ? n + 1 : n;
            high[steps - 1] = sign == '>' ? MOST_SO : sign == '<' ? n - 1 : n;
            return true;
        }

        boolean addStep(int newDoes) {
            if (steps >= MOST_SIGNS) {
                return false;
            }
            does[steps] = newDoes;
            steps++;
            return true;
        }

        /** Its steps are there. */
        boolean addClause(int newSort, int n) {
            if (clauses >= MOST_CLAUSES) {
                return false;
            }
            sort[clauses] = newSort;
            number[clauses] = n;
            end[clauses] = steps;
            clauses++;
            if (newSort == CALM) {
                calm = n;
            }
            return true;
        }

        int sumBy(int[] values) {
            int sum = 0;
            int start = 0;
            for (int clause = 0; clause < clauses; clause++) {
                if (sort[clause] != CALM && holds(start, end[clause], values)) {
                    sum += sort[clause] == LOUD ? number[clause] : -number[clause];
                }
                start = end[clause];
            }
            return sum;
        }

        private boolean holds(int start, int behind, int[] values) {
            // A stack of bits, the latest lowest: nesting is so shallow that an int has room.
            int bits = 0;
            for (int at = start; at < behind; at++) {
                switch (does[at]) {
                    case NOT: bits ^= 1; break;
                    case AND: bits = (bits >> 1) & (bits | ~1); break;
                    case OR: bits = (bits >> 1) | (bits & 1); break;
                    default:
                        int value = values[does[at]];
                        bits = (bits << 1) | (value >= low[at] && value <= high[at] ? 1 : 0);
                        break;
                }
            }
            return (bits & 1) != 0;
        }
    }

    /** THE TEXT, and its reading: where a reading method says no, at is the FAULT. */
    private static final class Text {
        int length;
        private final byte[] signs = new byte[MOST_SIGNS];
        private int at;
        private Charter charter;

        /** There is room for it. */
        int add(int sign) {
            signs[length] = (byte) sign;
            length++;
            return length;
        }

        int readInto(Charter into) {
            charter = into;
            charter.clear();
            at = 0;
            for (int left = MOST_CLAUSES; left > 0; left--) {
                if (!readClause()) {
                    return at;
                }
                if (at >= length) {
                    return NO_FAULT;
                }
                if (left == 1 || !take(';')) {
                    return at;
                }
            }
            return at;
        }

        private boolean readClause() {
            int sort = sortAhead();
            if (sort == NONE || !takeWord(sort) || !take(' ')) {
                return false;
            }
            int n = readNumber();
            if (n == NONE) {
                return false;
            }
            if (sort != CALM && !(take(' ') && readEither(0))) {
                return false;
            }
            return charter.addClause(sort, n);
        }

        private int sortAhead() {
            switch (ahead()) {
                case 'l': return LOUD;
                case 'h': return HUSH;
                case 'c': return CALM;
                default: return NONE;
            }
        }

        private boolean takeWord(int sort) {
            String word = sort == LOUD ? "loud" : sort == HUSH ? "hush" : "calm";
            for (int i = 0; i < word.length(); i++) {
                if (!take(word.charAt(i))) {
                    return false;
                }
            }
            return true;
        }

        private boolean readEither(int within) {
            for (int parts = 0; parts < MOST_SIGNS; parts++) {
                if (!readBoth(within) || (parts > 0 && !charter.addStep(OR))) {
                    return false;
                }
                if (!take('|')) {
                    return true;
                }
            }
            return false;
        }

        private boolean readBoth(int within) {
            for (int parts = 0; parts < MOST_SIGNS; parts++) {
                if (!readFact(within) || (parts > 0 && !charter.addStep(AND))) {
                    return false;
                }
                if (!take('&')) {
                    return true;
                }
            }
            return false;
        }

        /** Within so many ( and !: their bound keeps the recursion low. */
        private boolean readFact(int within) {
            int opening = ahead();
            if ((opening == '!' || opening == '(') && within < MOST_WITHIN) {
                at++;
                return opening == '!' ? readFact(within + 1) && charter.addStep(NOT)
                        : readEither(within + 1) && take(')');
            }
            int letter = opening < 0 ? NONE : LETTERS.indexOf((char) opening);
            if (letter < 0) {
                return false;
            }
            at++;
            int sign = ahead();
            if (sign != '<' && sign != '=' && sign != '>') {
                return false;
            }
            at++;
            int n = readNumber();
            return n != NONE && charter.addTest(letter, sign, n);
        }

        /** One digit or two; NONE without. */
        private int readNumber() {
            int n = NONE;
            for (int digits = 0; digits < 2; digits++) {
                int sign = ahead();
                if (sign < '0' || sign > '9') {
                    return n;
                }
                n = Math.max(n, 0) * 10 + sign - '0';
                at++;
            }
            return n;
        }

        private int ahead() {
            return at < length ? signs[at] : NONE;
        }

        private boolean take(char sign) {
            if (ahead() != sign) {
                return false;
            }
            at++;
            return true;
        }
    }

    /**
     * The bodies of all KINDS: each method begins its search for a body at the
     * KIND from. It calls itself for a KIND above alone, and tells call hums,
     * and hums rolls, never back: so few calls stand open at once.
     */
    private static final class Acts {
        int ran;
        final int[] bodies = new int[MOST_TRACE];
        private int number;
        private int kind;
        private int v;

        int run(int act, int man, int itsKind, int itsV, int x) {
            number = man;
            kind = itsKind;
            v = itsV;
            switch (act) {
                case ROLLS: return rolls(kind, x);
                case HUMS: return hums(kind, x);
                default: return tells(kind, x);
            }
        }

        private void began(int body) {
            if (ran < MOST_TRACE) {
                bodies[ran] = body;
            }
            ran++;
        }

        private int rolls(int from, int x) {
            switch (from) {
                case STOKER: case DANCER:
                    began(30);
                    return rolls(MAN, x * 3);
                case CELLARMAN:
                    began(50);
                    return -rolls(COOK, x);
                case TOLD:
                    began(71);
                    return rolls(SLEEPER, x) ^ v;
                default:
                    began(10);
                    return x + number;
            }
        }

        private int hums(int from, int x) {
            switch (from) {
                case COOK:
                    began(20);
                    return hums(MAN, x) ^ 6;
                case CELLARMAN:
                    began(51);
                    return hums(COOK, x + 1);
                case TOLD:
                    began(70);
                    return hums(SLEEPER, x) + rolls(SLEEPER, 2);
                default:
                    began(11);
                    return rolls(kind, x) - v;
            }
        }

        private int tells(int from, int x) {
            switch (from) {
                case SLEEPER: case TOLD:
                    began(40);
                    return tells(MAN, x) + hums(kind, 1);
                case DANCER:
                    began(60);
                    return tells(STOKER, x - number);
                default:
                    began(12);
                    return hums(kind, x) * 2;
            }
        }
    }

    /** A row of one sort, held as longs that fit it; size is 0 where it holds nothing. */
    private static final class Tape {
        int sort = EMPTY;
        int size;
        final long[] items = new long[MOST_ITEMS];

        void become(int newSort, int n) {
            sort = newSort;
            size = n;
            for (int i = 0; i < MOST_ITEMS; i++) {
                items[i] = 0;
            }
        }

        boolean hasRun(int i, int n) {
            return i >= 0 && n >= 0 && n <= size && i <= size - n;
        }
    }
}
