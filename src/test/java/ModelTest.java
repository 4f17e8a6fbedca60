import java.util.ArrayList;
import java.util.Arrays;
import java.util.List;
import java.util.function.Predicate;
import java.util.function.ToLongFunction;
import java.util.regex.Matcher;
import java.util.regex.Pattern;

/**
 * Long runs of calls, answered by CellarPlot and by a model of the document
 * that is written in another way: men are objects whose acts Java itself
 * dispatches, an E is rewritten as a text, a FAULT is found by trying endings.
 */
public final class ModelTest {
    private static final int OBJECTS = Integer.getInteger("objects", 300);
    private static final int CALLS = 512;
    /** A text of 104 signs, and charter(). */
    private static final int DEAREST_STEP = 105;

    // ---- the model: men

    private static class Man implements Cloneable {
        int kind, number, v, nerve, spell;
        boolean up;
        int[] row = new int[4];
        List<Integer> trace;

        int rolls(int x) { trace.add(10); return x + number; }
        int hums(int x) { trace.add(11); return rolls(x) - v; }
        int tells(int x) { trace.add(12); return hums(x) * 2; }

        int noise(World w) { return w.sum(this); }

        Man copy() {
            try {
                Man m = (Man) clone();
                m.row = row.clone();
                return m;
            } catch (CloneNotSupportedException e) {
                throw new IllegalStateException(e);
            }
        }
    }

    private static class Cook extends Man {
        @Override int hums(int x) { trace.add(20); return super.hums(x) ^ 6; }
        @Override int noise(World w) { return w.sum(this) + v; }
    }

    private static class Stoker extends Man {
        @Override int rolls(int x) { trace.add(30); return super.rolls(x * 3); }
        @Override int noise(World w) { return w.sum(this) / 2 + 3; }
    }

    private static class Sleeper extends Man {
        @Override int tells(int x) { trace.add(40); return super.tells(x) + hums(1); }
        @Override int noise(World w) { return w.day % 7 == 0 ? 0 : w.sum(this); }
    }

    private static final class Cellarman extends Cook {
        @Override int rolls(int x) { trace.add(50); return -super.rolls(x); }
        @Override int hums(int x) { trace.add(51); return super.hums(x + 1); }
        @Override int noise(World w) { return super.noise(w) - Math.min(9, spell); }
    }

    private static final class Dancer extends Stoker {
        @Override int tells(int x) { trace.add(60); return super.tells(x - number); }
        @Override int noise(World w) {
            boolean another = w.men.stream().anyMatch(m -> m.number != number && m instanceof Dancer && !m.up);
            return another ? 2 * super.noise(w) : super.noise(w);
        }
    }

    private static final class Told extends Sleeper {
        @Override int hums(int x) { trace.add(70); return super.hums(x) + super.rolls(2); }
        @Override int rolls(int x) { trace.add(71); return super.rolls(x) ^ v; }
        @Override int noise(World w) { return super.noise(w) + row[w.day % 4]; }
    }

    private static Man newMan(int kind) {
        switch (kind) {
            case 1: return new Cook();
            case 2: return new Stoker();
            case 3: return new Sleeper();
            case 4: return new Cellarman();
            case 5: return new Dancer();
            case 6: return new Told();
            default: return new Man();
        }
    }

    private static final List<Class<? extends Man>> KINDS = List.of(Man.class, Cook.class, Stoker.class,
            Sleeper.class, Cellarman.class, Dancer.class, Told.class);

    // ---- the model: charters

    private static final Pattern TEST = Pattern.compile("([pkvnad])([<=>])([0-9]{1,2})");
    private static final Pattern CLAUSE = Pattern.compile("(?:(loud|hush) ([0-9]{1,2}) (.*)|calm ([0-9]{1,2}))", Pattern.DOTALL);

    /** Reduces by the first rule that fits, until none does. */
    private static String reduce(String e, String[][] rules) {
        boolean again = true;
        while (again) {
            again = false;
            for (String[] rule : rules) {
                String next = e.replaceFirst(rule[0], rule[1]);
                if (!next.equals(e)) {
                    e = next;
                    again = true;
                    break;
                }
            }
        }
        return e;
    }

    /** The signs 0 .. 4 stand for an E with so many ( or ! over its deepest TEST. */
    private static boolean isE(String e) {
        if (e.matches("(?s).*[^pkvnad<=>0-9()!&|].*")) {
            return false;
        }
        String rest = reduce(TEST.matcher(e).replaceAll("T"), new String[][] {});
        if (rest.matches(".*[^T()!&|].*")) {
            return false;
        }
        List<String[]> rules = new ArrayList<>();
        for (int d = 0; d < 4; d++) {
            rules.add(new String[] {"!" + d, "" + (d + 1)});
            rules.add(new String[] {"\\(" + d + "\\)", "" + (d + 1)});
        }
        for (String sign : new String[] {"&", "\\|"}) {
            for (int a = 0; a <= 4; a++) {
                for (int b = 0; b <= 4; b++) {
                    rules.add(new String[] {"(?<!!)" + a + sign + b, "" + Math.max(a, b)});
                }
            }
        }
        return reduce(rest.replace('T', '0'), rules.toArray(new String[0][])).matches("[0-4]");
    }

    private static boolean isCharter(String text) {
        String[] clauses = text.split(";", -1);
        if (clauses.length > 10) {
            return false;
        }
        for (String clause : clauses) {
            Matcher m = CLAUSE.matcher(clause);
            if (!m.matches() || (m.group(1) != null && !isE(m.group(3)))) {
                return false;
            }
        }
        return true;
    }

    private static final String[] ENDINGS = {"", "loud 1 p=1", "oud 1 p=1", "ud 1 p=1", "d 1 p=1", "ush 1 p=1", "sh 1 p=1",
        "h 1 p=1", " 1 p=1", "1 p=1", " p=1", "p=1", "=1", "1", "alm 1", "lm 1", "m 1", " 1"};

    private static boolean begins(String prefix) {
        for (String ending : ENDINGS) {
            for (int k = 0; k <= 4; k++) {
                if (isCharter(prefix + ending + "))))".substring(0, k))) {
                    return true;
                }
            }
        }
        return false;
    }

    private static int fault(String text) {
        for (int i = 0; i < text.length(); i++) {
            if (!begins(text.substring(0, i + 1))) {
                return i;
            }
        }
        return text.length();
    }

    private static boolean holds(String e, Man m, int day) {
        Matcher tests = TEST.matcher(e);
        StringBuilder truth = new StringBuilder();
        while (tests.find()) {
            int n = Integer.parseInt(tests.group(3));
            int is;
            switch (tests.group(1)) {
                case "p": is = m.number; break;
                case "k": is = m.kind; break;
                case "v": is = m.v; break;
                case "n": is = m.nerve; break;
                case "a": is = m.spell % 10; break;
                default: is = day % 7; break;
            }
            String by = tests.group(2);
            boolean so = by.equals("<") ? is < n : by.equals("=") ? is == n : is > n;
            tests.appendReplacement(truth, so ? "t" : "f");
        }
        tests.appendTail(truth);
        return reduce(truth.toString(), BITS).equals("t");
    }

    private static final String[][] BITS = {{"!t", "f"}, {"!f", "t"}, {"\\(([tf])\\)", "$1"},
        {"t&t", "t"}, {"[tf]&[tf]", "f"},
        {"(?<![&!])f\\|f(?!&)", "f"}, {"(?<![&!])[tf]\\|[tf](?!&)", "t"}};

    // ---- the model: how all is

    private static final class World {
        List<Man> men = new ArrayList<>();
        int fear, truths, silences, day;
        List<int[]> heard = new ArrayList<>(), plan = new ArrayList<>(), book = new ArrayList<>();
        String charter = null;

        World copy() {
            World w = new World();
            men.forEach(m -> w.men.add(m.copy()));
            w.fear = fear;
            w.truths = truths;
            w.silences = silences;
            w.day = day;
            w.heard.addAll(heard);
            w.plan.addAll(plan);
            w.book.addAll(book);
            w.charter = charter;
            return w;
        }

        int calm() {
            int calm = 10;
            if (charter != null) {
                for (String clause : charter.split(";")) {
                    if (clause.startsWith("calm")) {
                        calm = Integer.parseInt(clause.substring(5));
                    }
                }
            }
            return calm;
        }

        int sum(Man m) {
            int sum = -(m.nerve / 4);
            if (charter != null) {
                for (String clause : charter.split(";")) {
                    String[] parts = clause.split(" ");
                    if (parts.length == 3 && holdsNow(parts[2], m)) {
                        sum += Integer.parseInt(parts[1]) * (parts[0].equals("loud") ? 1 : -1);
                    }
                }
            }
            return sum;
        }

        boolean holdsNow(String e, Man m) {
            String key = e + "/" + m.number + "/" + m.kind + "/" + m.v + "/" + m.nerve + "/" + m.spell % 10 + "/" + day % 7;
            Boolean known = KNOWN.get(key);
            if (known == null) {
                known = holds(e, m, day);
                KNOWN.put(key, known);
            }
            return known;
        }

        int sound() {
            return men.stream().filter(m -> !m.up).mapToInt(m -> Math.max(0, m.noise(this))).sum();
        }

        World days(int n) {
            for (int i = 0; i < n; i++) {
                int sound = sound();
                if (sound == 0) {
                    silences++;
                    fear += 50;
                } else {
                    fear = Math.max(0, fear + sound - calm());
                }
                fear = Math.min(9999, fear);
                if (fear >= 100) {
                    truths++;
                    fear = fear / 2;
                }
                men.forEach(m -> m.spell = m.up ? 0 : m.spell + 1);
                day++;
            }
            return this;
        }

        int up() {
            return men.stream().filter(m -> m.up).mapToInt(m -> 1 << m.number).sum();
        }

        World withUp(int set) {
            World w = copy();
            w.men.forEach(m -> m.up = (set >> m.number & 1) == 1);
            return w;
        }
    }

    private static final java.util.HashMap<String, Boolean> KNOWN = new java.util.HashMap<>();

    // ---- the model: the calls

    private static final class Model {
        World w = new World();
        World image = null;
        String text = "";
        int charters = 0;
        List<Integer> trace = new ArrayList<>();
        Object[] tapes = new Object[6];

        Man at(int man) {
            return man >= 0 && man < w.men.size() ? w.men.get(man) : null;
        }

        long man(int kind, int v, int nerve) {
            if (kind < 0 || kind > 6) return -1;
            if (v < 0 || v > 9 || nerve < 0 || nerve > 20) return -2;
            if (w.men.size() == 6) return -4;
            Man m = newMan(kind);
            m.kind = kind;
            m.v = v;
            m.nerve = nerve;
            m.number = w.men.size();
            w.men.add(m);
            return m.number;
        }

        long of(int man, int what) {
            Man m = at(man);
            if (m == null) return -10001;
            switch (what) {
                case 0: return m.kind;
                case 1: return m.v;
                case 2: return m.nerve;
                case 3: return m.up ? 1 : 0;
                case 4: return m.spell;
                case 5: return m.noise(w);
                case 6: {
                    long bits = 0;
                    for (int n = 0; n <= 20; n++) {
                        World t = w.copy();
                        t.men.get(man).nerve = n;
                        if (asHeard(t)) bits += 1L << n;
                    }
                    return bits;
                }
                default: return -10001;
            }
        }

        boolean asHeard(World t) {
            for (int[] row : w.heard) {
                if (t.copy().days(row[0]).sound() != row[1]) return false;
            }
            return true;
        }

        long steady(int man, int n) {
            Man m = at(man);
            if (m == null) return -1;
            if (n < 0 || n > 20) return -2;
            int was = m.nerve;
            m.nerve = n;
            return was;
        }

        long change(int man, boolean up) {
            Man m = at(man);
            if (m == null) return -1;
            boolean was = m.up;
            m.up = up;
            return was ? 1 : 0;
        }

        long fear(int n) {
            if (n < 0 || n > 9999) return -2;
            int was = w.fear;
            w.fear = n;
            return was;
        }

        long row(int man, int part, int n) {
            Man m = at(man);
            if (m == null || part < 0 || part > 3) return -1;
            if (n < 0 || n > 9) return -2;
            if (!(m instanceof Told)) return -3;
            int was = m.row[part];
            m.row[part] = n;
            return was;
        }

        long feed(int sign) {
            if (sign < 0 || sign > 127) return -2;
            if (text.length() == 100) return -4;
            text += (char) sign;
            return text.length();
        }

        long charter() {
            if (charters == 6) return -4;
            String t = text;
            text = "";
            if (!isCharter(t)) return -10 - fault(t);
            w.charter = t;
            return charters++;
        }

        long told(int what) {
            switch (what) {
                case 0: return w.day;
                case 1: return w.calm();
                case 2: return w.fear;
                case 3: return w.truths;
                case 4: return w.silences;
                case 5: return w.sound();
                case 6: return w.up();
                case 7:
                    for (int n = 0; n <= 60; n++) {
                        if (w.copy().days(n).sound() == 0) return n;
                    }
                    return -5;
                case 8: return watches()[0];
                case 9: return watches()[1];
                default: return -1;
            }
        }

        int[] watches() {
            List<Man> below = new ArrayList<>(w.men);
            below.removeIf(m -> m.up);
            if (below.isEmpty()) return new int[] {0, 0};
            int[] best = null;
            for (int pick = 0; pick < 1 << (below.size() - 1); pick++) {
                int bits = 1 << below.get(0).number;
                int apart = Math.max(0, below.get(0).noise(w));
                for (int i = 1; i < below.size(); i++) {
                    int noise = Math.max(0, below.get(i).noise(w));
                    if ((pick >> (i - 1) & 1) == 1) {
                        bits += 1 << below.get(i).number;
                        apart += noise;
                    } else {
                        apart -= noise;
                    }
                }
                apart = Math.abs(apart);
                if (best == null || apart < best[0] || (apart == best[0] && bits < best[1])) best = new int[] {apart, bits};
            }
            return best;
        }

        long pass(int n) {
            if (n < 0 || n > 60) return -2;
            if (w.day + n > 9999) return -3;
            return w.days(n).day;
        }

        long on(int n, int what) {
            if (what < 0 || what > 3) return -1;
            if (n < 0 || n > 60) return -2;
            World t = w.copy().days(n);
            return new long[] {t.fear, t.truths, t.silences, t.sound()}[what];
        }

        long best(int n, int what) {
            if (what < 0 || what > 2) return -1;
            if (n < 1 || n > 12) return -2;
            int all = (1 << w.men.size()) - 1;
            List<Integer> sets = new ArrayList<>();
            for (int set = 0; set <= all; set++) sets.add(set);
            sets.sort((a, b) -> Integer.bitCount(a) != Integer.bitCount(b) ? Integer.bitCount(a) - Integer.bitCount(b) : a - b);
            if (what == 2) {
                for (int below : sets) {
                    if (w.withUp(all - below).days(n).truths > w.truths) return below;
                }
                return -5;
            }
            int best = -1;
            int most = -1;
            for (int up : sets) {
                int truths = w.withUp(up).days(n).truths;
                if (truths > most) {
                    most = truths;
                    best = up;
                }
            }
            return what == 0 ? best : most;
        }

        long hear(int n, int sound) {
            if (n == -1) {
                w.heard.clear();
                return 0;
            }
            if (n < 0 || n > 12 || sound < 0 || sound > 999) return -2;
            if (w.heard.size() == 5) return -4;
            w.heard.add(new int[] {n, sound});
            return w.heard.size();
        }

        long can(int man, int what) {
            if (at(man) == null || what < 0 || what > 1) return -1;
            List<Integer> fit = new ArrayList<>();
            for (int v = 0; v <= 9; v++) {
                World t = w.copy();
                t.men.get(man).v = v;
                if (asHeard(t)) fit.add(v);
            }
            return what == 0 ? fit.size() : fit.isEmpty() ? -5 : fit.get(0);
        }

        long fraction(long above, long below, int part) {
            long a = above;
            long b = below;
            while (b != 0) {
                long r = a % b;
                a = b;
                b = r;
            }
            return (part == 0 ? above : below) / a;
        }

        long odds(int n, int part) {
            if (n < 0 || n > 20 || part < 0 || part > 1 || w.men.isEmpty()) return Long.MIN_VALUE;
            int more = 0;
            for (int man = 0; man < w.men.size(); man++) {
                World t = w.copy();
                t.men.get(man).up = !t.men.get(man).up;
                if (t.days(n).truths > w.truths) more++;
            }
            return fraction(more, w.men.size(), part);
        }

        long mean(int part) {
            int[] nerves = w.men.stream().filter(m -> !m.up).mapToInt(m -> m.nerve).toArray();
            if (part < 0 || part > 1 || nerves.length == 0) return Long.MIN_VALUE;
            return fraction(Arrays.stream(nerves).sum(), nerves.length, part);
        }

        long plan(int what, int man) {
            if (what == -1) {
                w.plan.clear();
                return 0;
            }
            if (what < 0 || what > 3) return -1;
            if ((what == 1 || what == 2) && at(man) == null) return -1;
            if (w.plan.size() == 10) return -4;
            w.plan.add(new int[] {what, man});
            return w.plan.size();
        }

        long ends(int what) {
            if (what < 0 || what > 1) return -1;
            World t = w.copy();
            for (int[] row : w.plan) {
                if (row[0] == 0) t.days(1);
                if (row[0] == 1) t.men.get(row[1]).up = true;
                if (row[0] == 2) t.men.get(row[1]).up = false;
                if (row[0] == 3) t.fear = 0;
            }
            return what == 0 ? t.fear : t.truths;
        }

        long book(int man, int nerve) {
            if (man == -1) {
                w.book.clear();
                return 0;
            }
            if (at(man) == null) return -1;
            if (nerve < 0 || nerve > 20) return -2;
            if (w.book.size() == 8) return -4;
            w.book.add(new int[] {man, nerve});
            return w.book.size();
        }

        long looked() {
            for (int i = 0; i < w.book.size(); i++) {
                if (w.men.get(w.book.get(i)[0]).nerve != w.book.get(i)[1]) return i;
            }
            return -5;
        }

        long judge(int tape, int i) {
            if (tape < 0 || tape > 5) return -1;
            if (tapes[tape] != null && !(tapes[tape] instanceof int[])) return -12;
            int[] row = (int[]) tapes[tape];
            for (int man = 0; man < w.men.size(); man++) {
                if (row == null || i < 0 || (long) i + man >= row.length) return 100 + man;
                if (row[i + man] != w.men.get(man).spell) return man;
            }
            return -5;
        }

        long image() {
            image = w.copy();
            return w.men.size();
        }

        long undo() {
            if (image == null) return -3;
            w = image.copy();
            return w.men.size();
        }

        long act(int man, int act, int x) {
            trace = new ArrayList<>();
            Man m = at(man);
            if (m == null || act < 0 || act > 2) return 0;
            m.trace = trace;
            return act == 0 ? m.rolls(x) : act == 1 ? m.hums(x) : m.tells(x);
        }

        long trace(int i) {
            return i < 0 || i >= trace.size() || i >= 20 ? -1 : trace.get(i);
        }

        long taken(int man, int k) {
            if (k < 0 || k > 6) return -2;
            if (at(man) == null) return -11;
            return KINDS.get(k).isInstance(at(man)) ? at(man).kind : -12;
        }

        long count(int what) {
            switch (what) {
                case 0: return w.men.size();
                case 1: return charters;
                case 2: return w.heard.size();
                case 3: return w.plan.size();
                case 4: return w.book.size();
                case 5: return text.length();
                case 6: return trace.size();
                default: return -2;
            }
        }

        long tape(int tape, int sort, int n) {
            if (tape < 0 || tape > 5) return -1;
            if (sort < -1 || sort > 4) return -2;
            if (sort == -1) {
                tapes[tape] = null;
                return 1;
            }
            if (n > 60) return -2;
            if (n < 0) return -14;
            tapes[tape] = sort == 0 ? new byte[n] : sort == 1 ? new short[n] : sort == 2 ? new int[n]
                    : sort == 3 ? (Object) new long[n] : new boolean[n];
            return 1;
        }

        long item(int tape, int i, long v) {
            if (tape < 0 || tape > 5) return -1;
            Object t = tapes[tape];
            if (t == null) return -11;
            if (i < 0 || i >= java.lang.reflect.Array.getLength(t)) return -13;
            if (t instanceof byte[]) ((byte[]) t)[i] = (byte) v;
            if (t instanceof short[]) ((short[]) t)[i] = (short) v;
            if (t instanceof int[]) ((int[]) t)[i] = (int) v;
            if (t instanceof long[]) ((long[]) t)[i] = v;
            if (t instanceof boolean[]) ((boolean[]) t)[i] = v != 0;
            return 1;
        }

        long read(int tape, int i) {
            if (tape < 0 || tape > 5 || tapes[tape] == null) return Long.MIN_VALUE;
            Object t = tapes[tape];
            if (i < 0 || i >= java.lang.reflect.Array.getLength(t)) return Long.MIN_VALUE;
            return t instanceof boolean[] ? (((boolean[]) t)[i] ? 1 : 0) : java.lang.reflect.Array.getLong(t, i);
        }

        long shift(int tape, int i, int other, int j, int n) {
            if (tape < 0 || tape > 5 || other < 0 || other > 5) return -1;
            if (tapes[tape] == null || tapes[other] == null) return -11;
            if (tapes[tape].getClass() != tapes[other].getClass()) return -12;
            try {
                System.arraycopy(tapes[tape], i, tapes[other], j, n);
            } catch (IndexOutOfBoundsException e) {
                return -13;
            }
            return n;
        }
    }

    // ---- the runs

    private static long seed;

    /** 0 .. bound - 1, always the same row of numbers. */
    private static int any(int bound) {
        seed = seed * 6364136223846793005L + 1442695040888963407L;
        return (int) ((seed >>> 33) % bound);
    }

    private static int from(int least, int most) {
        return least + any(most - least + 1);
    }

    /** Mostly within, now and then just beyond, rarely far beyond. */
    private static int about(int least, int most) {
        int r = any(60);
        if (r == 0) return new int[] {Integer.MIN_VALUE, Integer.MAX_VALUE, -1000, 1000, Integer.MAX_VALUE - 3}[any(5)];
        if (r == 1) return least - 1;
        if (r == 2) return most + 1;
        if (r == 3) return least;
        if (r == 4) return most;
        return from(least, most);
    }

    private static String anyE(int depth) {
        int r = any(10);
        if (depth < 6 && r == 0) return "!" + anyE(depth + 1);
        if (depth < 6 && r == 1) return "(" + anyE(depth + 1) + ")";
        if (depth < 6 && r == 2) return anyE(depth + 1) + "&" + anyE(depth + 1);
        if (depth < 6 && r == 3) return anyE(depth + 1) + "|" + anyE(depth + 1);
        if (depth < 6 && r == 4) return "(" + anyE(depth + 1) + "|" + anyE(depth + 1) + ")&" + anyE(depth + 1);
        int letter = any(6);
        int bound = new int[] {6, 7, 10, 21, 10, 7}[letter];
        return "" + "pkvnad".charAt(letter) + "<=>".charAt(any(3)) + any(bound);
    }

    private static String anyClause() {
        int r = any(7);
        if (r == 0) return "calm " + any(100);
        return (r < 5 ? "loud " : "hush ") + any(any(2) == 0 ? 100 : 15) + " " + anyE(any(5));
    }

    private static String anyText() {
        StringBuilder text = new StringBuilder(anyClause());
        for (int more = any(any(6) == 0 ? 12 : 4); more > 0; more--) {
            text.append(';').append(any(8) == 0 ? "calm 5" : anyClause());
        }
        for (int spoil = any(3) == 0 ? 1 + any(2) : 0; spoil > 0; spoil--) {
            int place = any(text.length() + 1);
            String sign = "" + "loudhushcalm ;!&|()pkvnad<=>0123456789x".charAt(any(39));
            int way = any(3);
            if (way == 0) text.insert(place, sign);
            if (way == 1 && place < text.length()) text.deleteCharAt(place);
            if (way == 2) text.setLength(Math.max(1, place));
        }
        text.setLength(Math.min(text.length(), 104));
        return text.toString();
    }

    private static CellarPlot x;
    private static Model m;
    private static int run;
    /** How many calls this object has had: behind the 512th nothing is promised. */
    private static int calls;

    private static void due(String call, long got, long want) {
        calls++;
        Due.due("object " + run + ": " + call, got, want);
    }

    private static void feedText() {
        String text = anyText();
        for (int i = 0; i < text.length(); i++) {
            due("feed " + text.charAt(i), x.feed(text.charAt(i)), m.feed(text.charAt(i)));
        }
        if (any(8) > 0) {
            due("charter of " + text, x.charter(), m.charter());
        }
    }

    private static void anyCall() {
        int a = about(0, Math.max(0, m.w.men.size() - 1));
        int t = about(0, 5);
        switch (any(34)) {
            case 0: case 1: { int k = about(0, 6), v = about(0, 9), n = about(0, 20); due("man " + k + " " + v + " " + n, x.man(k, v, n), m.man(k, v, n)); break; }
            case 2: case 3: case 4: { int w = about(0, 6); due("of " + a + " " + w, x.of(a, w), m.of(a, w)); break; }
            case 5: { int n = about(0, 20); due("steady " + a + " " + n, x.steady(a, n), m.steady(a, n)); break; }
            case 6: case 7: { boolean u = any(2) == 0; due("change " + a + " " + u, x.change(a, u), m.change(a, u)); break; }
            case 8: { int n = about(0, any(2) == 0 ? 200 : 9999); due("fear " + n, x.fear(n), m.fear(n)); break; }
            case 9: { int p = about(0, 3), n = about(0, 9); due("row " + a + " " + p + " " + n, x.row(a, p, n), m.row(a, p, n)); break; }
            case 10: { int s = about(0, 127); due("feed " + s, x.feed(s), m.feed(s)); break; }
            case 11: due("charter", x.charter(), m.charter()); break;
            case 12: case 13: case 14: { int w = about(0, 9); due("told " + w, x.told(w), m.told(w)); break; }
            case 15: { int n = about(0, any(2) == 0 ? 60 : 5); due("pass " + n, x.pass(n), m.pass(n)); break; }
            case 16: { int n = about(0, 60), w = about(0, 3); due("on " + n + " " + w, x.on(n, w), m.on(n, w)); break; }
            case 17: { int n = about(1, 12), w = about(0, 2); due("best " + n + " " + w, x.best(n, w), m.best(n, w)); break; }
            case 18: {
                int n = any(8) == 0 ? -1 : about(0, 12);
                int s = n >= 0 && n <= 12 && any(3) > 0 ? (int) m.on(n, 3) : about(0, 999);
                due("hear " + n + " " + s, x.hear(n, s), m.hear(n, s));
                break;
            }
            case 19: { int w = about(0, 1); due("can " + a + " " + w, x.can(a, w), m.can(a, w)); break; }
            case 20: { int n = about(0, 20), p = about(0, 1); due("odds " + n + " " + p, x.odds(n, p), m.odds(n, p)); break; }
            case 21: { int p = about(0, 1); due("mean " + p, x.mean(p), m.mean(p)); break; }
            case 22: { int w = any(12) == 0 ? -1 : about(0, 3); due("plan " + w + " " + a, x.plan(w, a), m.plan(w, a)); break; }
            case 23: { int w = about(0, 1); due("ends " + w, x.ends(w), m.ends(w)); break; }
            case 24: {
                int n = m.at(a) != null && any(3) > 0 ? m.at(a).nerve : about(0, 20);
                int b = any(12) == 0 ? -1 : a;
                due("book " + b + " " + n, x.book(b, n), m.book(b, n));
                break;
            }
            case 25: due("looked", x.looked(), m.looked()); break;
            case 26: { int i = about(0, 8); due("judge " + t + " " + i, x.judge(t, i), m.judge(t, i)); break; }
            case 27: if (any(3) == 0) due("image", x.image(), m.image()); else if (any(3) == 0) due("undo", x.undo(), m.undo()); break;
            case 28: { int c = about(0, 2), n = any(3) == 0 ? any(1 << 30) * 7 : from(-9, 9); due("act " + a + " " + c + " " + n, x.act(a, c, n), m.act(a, c, n)); break; }
            case 29: { int i = about(0, 12), w = about(0, 6); due("trace " + i, x.trace(i), m.trace(i)); due("count " + w, x.count(w), m.count(w)); break; }
            case 30: { int k = about(0, 6); due("taken " + a + " " + k, x.taken(a, k), m.taken(a, k)); break; }
            case 31: { int s = any(9) == 0 ? -1 : any(2) == 0 ? 2 : about(0, 4), n = about(0, any(2) == 0 ? 60 : 8); due("tape " + t + " " + s + " " + n, x.tape(t, s, n), m.tape(t, s, n)); break; }
            case 32: {
                int i = about(0, 8);
                long v = any(3) == 0 ? any(1 << 30) * 37777777777L : m.w.day % 100 + any(2);
                due("item " + t + " " + i + " " + v, x.item(t, i, v), m.item(t, i, v));
                due("read " + t + " " + i, x.read(t, i), m.read(t, i));
                break;
            }
            default: {
                int o = any(2) == 0 ? t : about(0, 5), i = about(0, 8), j = about(0, 8), n = about(0, 5);
                due("shift " + t + " " + i + " " + o + " " + j + " " + n, x.shift(t, i, o, j, n), m.shift(t, i, o, j, n));
                for (int k = 0; k < 6; k++) due("read " + o + " " + k, x.read(o, k), m.read(o, k));
                break;
            }
        }
    }

    /** A row of ints that is as the SPELLS are, so that judging gets far. */
    private static void fillSpells() {
        int t = any(6);
        int at = any(4);
        due("tape " + t, x.tape(t, 2, 10), m.tape(t, 2, 10));
        for (int i = 0; i < m.w.men.size(); i++) {
            long v = m.w.men.get(i).spell + (any(20) == 0 ? 1 : 0);
            due("item", x.item(t, at + i, v), m.item(t, at + i, v));
        }
        due("judge", x.judge(t, at), m.judge(t, at));
        int far = 10 - any(6);
        due("judge far", x.judge(t, far), m.judge(t, far));
    }

    public static void main(String[] args) {
        for (run = 0; run < OBJECTS; run++) {
            seed = run * 7919L + 17;
            KNOWN.clear();
            calls = 0;
            x = new CellarPlot();
            m = new Model();
            for (int men = any(7); men > 0; men--) {
                int k = from(0, 6), v = from(0, 9), n = from(0, 20);
                due("man", x.man(k, v, n), m.man(k, v, n));
            }
            while (calls <= CALLS - DEAREST_STEP) {
                int r = any(100);
                if (r < 2) feedText();
                else if (r < 4) fillSpells();
                else anyCall();
            }
        }
        Due.end();
    }
}
