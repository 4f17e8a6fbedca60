import java.util.ArrayList;
import java.util.List;
import java.util.function.ToLongFunction;

/**
 * "What is answered so changes nothing; what is asked changes nothing": of two
 * objects with the same calls one is refused a call, or is asked, and then all
 * that can be asked, and what comes behind, answers as by the other.
 */
public final class RefusedTest {
    private static final int NONE = -1, BAD = -2, STATE = -3, FULL = -4, NONE_BELOW = -10001;
    private static final int NOTHING = -11, CAST = -12, PLACE = -13, SIZE = -14;
    private static final int LEAST = Integer.MIN_VALUE, MOST = Integer.MAX_VALUE;
    private static final long NO = Long.MIN_VALUE;

    /** So many calls a part has that building, asking two parts and a refusal stay within 512. */
    private static final int PART = 110;

    private static final class Call {
        final String name;
        final ToLongFunction<CellarPlot> answer;

        Call(String name, ToLongFunction<CellarPlot> answer) {
            this.name = name;
            this.answer = answer;
        }
    }

    private static final List<Call> ASKED = new ArrayList<>();
    private static final List<Call> BEHIND = new ArrayList<>();
    private static final List<List<Call>> PARTS = new ArrayList<>();

    public static void main(String[] args) {
        listAsked();
        listBehind();
        for (int from = 0; from < ASKED.size(); from += PART) {
            PARTS.add(ASKED.subList(from, Math.min(ASKED.size(), from + PART)));
        }
        PARTS.add(BEHIND);
        Due.due("parts are short enough", BEHIND.size() <= PART + 40 ? 1 : 0, 1);
        for (int state = 0; state < 4; state++) {
            asked(state);
            for (Object[] one : refusals(state)) {
                refused(state, (Call) one[0], (Long) one[1]);
            }
        }
        faults();
        acts();
        Due.end();
    }

    // ---- how all is ahead of the refused call

    private static CellarPlot made(int state) {
        CellarPlot x = new CellarPlot();
        switch (state) {
            case 0: break;
            case 1: some(x); break;
            case 2: full(x); break;
            default: late(x); break;
        }
        return x;
    }

    private static void some(CellarPlot x) {
        x.man(6, 5, 9);
        x.man(4, 8, 2);
        x.man(5, 3, 12);
        x.row(0, 1, 7);
        Due.charter(x, "calm 3;loud 9 v>3&!a=2");
        x.image();
        x.row(0, 2, 4);
        x.pass(5);
        x.change(2, true);
        Due.charter(x, "loud 20 p<2;hush 4 d=6;calm 12");
        x.pass(1);
        x.change(1, true);
        x.fear(77);
        Due.feed(x, "loud 12 n>3;calm 4");
        x.hear(0, x.told(5));
        x.hear(3, 30);
        x.plan(0, 0);
        x.plan(2, 1);
        x.plan(0, 0);
        x.book(0, 9);
        x.book(1, 3);
        for (int tape = 0; tape <= 4; tape++) {
            x.tape(tape, tape, 4 + tape);
            x.item(tape, 0, 6);
            x.item(tape, 2, tape + 1);
        }
        x.act(0, 2, 9);
    }

    private static void full(CellarPlot x) {
        for (int kind = 6; kind >= 1; kind--) {
            x.man(kind, kind + 2, kind * 3);
        }
        for (int n = 0; n < 6; n++) {
            Due.charter(x, n == 5 ? "calm 5;loud 15 p<5" : "calm " + n);
            if (n == 3) {
                x.image();
            }
        }
        x.pass(9);
        for (int signs = Due.feed(x, "hush 2 p=1;loud 7 v<9"); signs < 100; signs++) {
            x.feed(signs % 2 == 0 ? '&' : 'p');
        }
        for (int n = 0; n < 5; n++) {
            x.hear(0, 40 + n);
        }
        for (int n = 0; n < 10; n++) {
            x.plan(n % 4, n % 6);
        }
        for (int n = 0; n < 8; n++) {
            x.book(n % 6, x.of(n % 6, 2));
        }
        for (int tape = 0; tape <= 5; tape++) {
            x.tape(tape, 2 + tape % 2, 60);
            x.item(tape, 59, -tape);
            x.item(tape, 0, 9);
        }
        x.act(2, 1, 3);
    }

    private static void late(CellarPlot x) {
        x.man(4, 3, 5);
        x.man(3, 0, 20);
        x.image();
        x.fear(9999);
        for (int n = 0; n < 166; n++) {
            x.pass(60);
        }
        x.pass(39);
    }

    // ---- what can be asked, and what comes behind

    private static void ask(String name, ToLongFunction<CellarPlot> answer) {
        ASKED.add(new Call(name, answer));
    }

    private static void listAsked() {
        for (int man = -1; man <= 6; man++) {
            int m = man;
            for (int what = 0; what <= 6; what++) {
                int w = what;
                ask("of " + m + " " + w, x -> x.of(m, w));
                ask("taken " + m + " " + w, x -> x.taken(m, w));
            }
            ask("can " + m + " 0", x -> x.can(m, 0));
            ask("can " + m + " 1", x -> x.can(m, 1));
        }
        for (int what = 0; what <= 10; what++) {
            int w = what;
            ask("told " + w, x -> x.told(w));
            ask("count " + w, x -> x.count(w));
            ask("mean " + w, x -> x.mean(w));
            ask("ends " + w, x -> x.ends(w));
        }
        for (int i = 0; i <= 20; i++) {
            int at = i;
            ask("trace " + i, x -> x.trace(at));
        }
        ask("looked", x -> x.looked());
        listAskedOfDays();
        listAskedOfTapes();
    }

    private static void listAskedOfDays() {
        for (int n : new int[] {0, 1, 2, 3, 7, 12, 20, 59, 60}) {
            for (int what = 0; what <= 3; what++) {
                int w = what;
                ask("on " + n + " " + w, x -> x.on(n, w));
                ask("best " + n + " " + w, x -> x.best(n, w));
            }
            ask("odds " + n + " 0", x -> x.odds(n, 0));
            ask("odds " + n + " 1", x -> x.odds(n, 1));
        }
    }

    private static void listAskedOfTapes() {
        for (int tape = 0; tape <= 5; tape++) {
            int t = tape;
            for (int i : new int[] {0, 1, 2, 3, 4, 7, 8, 58, 59, 60}) {
                ask("read " + t + " " + i, x -> x.read(t, i));
            }
            ask("judge " + t + " 0", x -> x.judge(t, 0));
            ask("judge " + t + " 59", x -> x.judge(t, 59));
        }
    }

    private static void behind(String name, ToLongFunction<CellarPlot> answer) {
        BEHIND.add(new Call("behind: " + name, answer));
    }

    private static void listBehind() {
        for (int man = 0; man <= 5; man++) {
            int m = man;
            behind("NOISE of " + m, x -> x.of(m, 5));
            for (int part = 0; part <= 3; part++) {
                int p = part;
                behind("row " + m + " " + p, x -> x.row(m, p, 3));
            }
            behind("steady " + m, x -> x.steady(m, 10));
            behind("change " + m, x -> x.change(m, true));
        }
        behind("charter", x -> x.charter());
        behind("CALM", x -> x.told(1));
        behind("FEAR", x -> x.fear(4));
        behind("DAY", x -> x.pass(2));
        behind("hear", x -> x.hear(1, 1));
        behind("plan", x -> x.plan(3, 0));
        behind("book", x -> x.book(0, 1));
        behind("item", x -> x.item(2, 1, 44));
        behind("shift", x -> x.shift(2, 0, 2, 1, 3));
        behind("read", x -> x.read(2, 2));
        behind("feed", x -> x.feed('c'));
        behind("charter again", x -> x.charter());
        behind("man", x -> x.man(1, 2, 3));
        behind("tape", x -> x.tape(0, 2, 2));
        behind("undo", x -> x.undo());
        for (int what = 0; what <= 9; what++) {
            int w = what;
            behind("told behind undo " + w, x -> x.told(w));
            behind("count behind undo " + w, x -> x.count(w));
        }
        for (int man = 0; man <= 5; man++) {
            int m = man;
            for (int what = 1; what <= 6; what++) {
                int w = what;
                behind("of behind undo " + m + " " + w, x -> x.of(m, w));
            }
        }
        behind("act", x -> x.act(0, 2, 5));
        behind("TRACE", x -> x.count(6));
    }

    // ---- what is refused

    private static final List<Object[]> REFUSALS = new ArrayList<>();

    private static void not(String name, ToLongFunction<CellarPlot> answer, long want) {
        REFUSALS.add(new Object[] {new Call(name, answer), want});
    }

    private static List<Object[]> refusals(int state) {
        REFUSALS.clear();
        for (int far : new int[] {-1, 6, LEAST, MOST}) {
            refusedOfNoMan(far);
            refusedOfNoTape(far);
        }
        for (int far : new int[] {-2, 7, 10, 13, 21, 61, 128, 1000, 10000, LEAST, MOST}) {
            refusedByANumber(state, far);
        }
        switch (state) {
            case 0: refusedAtFirst(); break;
            case 1: refusedOfSome(); break;
            case 2: refusedWhenFull(); break;
            default: refusedWhenLate(); break;
        }
        return REFUSALS;
    }

    private static void refusedOfNoMan(int man) {
        not("of " + man, x -> x.of(man, 0), NONE_BELOW);
        not("steady " + man, x -> x.steady(man, 3), NONE);
        not("change " + man, x -> x.change(man, true), NONE);
        not("row " + man, x -> x.row(man, 0, 5), NONE);
        not("can " + man, x -> x.can(man, 0), NONE);
        not("plan of 1 " + man, x -> x.plan(1, man), NONE);
        not("plan of 2 " + man, x -> x.plan(2, man), NONE);
        not("taken " + man, x -> x.taken(man, 0), NOTHING);
        if (man != -1) {
            not("book " + man, x -> x.book(man, 5), NONE);
        }
    }

    private static void refusedOfNoTape(int tape) {
        not("judge " + tape, x -> x.judge(tape, 0), NONE);
        not("tape " + tape, x -> x.tape(tape, 2, 5), NONE);
        not("tape " + tape + " of nothing", x -> x.tape(tape, -1, 0), NONE);
        not("item " + tape, x -> x.item(tape, 0, 5), NONE);
        not("read " + tape, x -> x.read(tape, 0), NO);
        not("shift from " + tape, x -> x.shift(tape, 0, 2, 1, 1), NONE);
        not("shift to " + tape, x -> x.shift(2, 0, tape, 1, 1), NONE);
    }

    private static void refusedByANumber(int state, int n) {
        boolean isOver = n < 0 || n > 127;
        not("kind " + n, x -> x.man(n < 7 ? n : -1, 0, 0), NONE);
        not("told " + n, x -> x.told(n < 10 && n > 0 ? -1 : n), NONE);
        not("count " + n, x -> x.count(n), BAD);
        not("taken for " + n, x -> x.taken(0, n), BAD);
        not("on, what " + n, x -> x.on(0, n), NONE);
        not("best, what " + n, x -> x.best(1, n), NONE);
        not("ends " + n, x -> x.ends(n), NONE);
        not("mean " + n, x -> x.mean(n), NO);
        not("odds, part " + n, x -> x.odds(0, n), NO);
        not("plan of " + n, x -> x.plan(n, 0), NONE);
        not("sort " + n, x -> x.tape(2, n, 5), BAD);
        if (n < 0 || n > 9) {
            not("v " + n, x -> x.man(0, n, 0), BAD);
        }
        if (n < 0 || n > 12) {
            not("best of " + n, x -> x.best(n, 0), BAD);
            not("hear of DAY " + n, x -> x.hear(n, 0), BAD);
        }
        if (n < 0 || n > 20) {
            not("NERVE " + n, x -> x.man(0, 0, n), BAD);
            not("odds of " + n, x -> x.odds(n, 0), NO);
            not("trace " + n, x -> x.trace(n), NONE);
        }
        if (n < 0 || n > 60) {
            not("pass " + n, x -> x.pass(n), BAD);
            not("on " + n, x -> x.on(n, 0), BAD);
            not("tape of " + n, x -> x.tape(2, 2, n), n < 0 ? SIZE : BAD);
        }
        if (isOver) {
            not("feed " + n, x -> x.feed(n), BAD);
        }
        if (n < 0 || n > 999) {
            not("hear SOUND " + n, x -> x.hear(0, n), BAD);
        }
        if (n < 0 || n > 9999) {
            not("fear " + n, x -> x.fear(n), BAD);
        }
        if (state > 0) {
            refusedOfAMan(n);
        }
    }

    private static void refusedOfAMan(int n) {
        not("of what " + n, x -> x.of(0, n), NONE_BELOW);
        not("can what " + n, x -> x.can(0, n), NONE);
        not("row of part " + n, x -> x.row(0, n, 5), NONE);
        if (n < 0 || n > 20) {
            not("steady by " + n, x -> x.steady(0, n), BAD);
            not("book of " + n, x -> x.book(0, n), BAD);
        }
        if (n < 0 || n > 9) {
            not("row of " + n, x -> x.row(0, 0, n), BAD);
        }
    }

    private static void refusedAtFirst() {
        not("undo", x -> x.undo(), STATE);
        not("steady 0", x -> x.steady(0, 5), NONE);
        not("change 0", x -> x.change(0, true), NONE);
        not("row 0", x -> x.row(0, 0, 5), NONE);
        not("plan of 1 0", x -> x.plan(1, 0), NONE);
        not("book 0", x -> x.book(0, 5), NONE);
        not("item 0", x -> x.item(0, 0, 5), NOTHING);
        not("shift 0", x -> x.shift(0, 0, 0, 0, 0), NOTHING);
        not("charter of nothing", x -> x.charter(), -10);
        not("odds", x -> x.odds(1, 0), NO);
        not("mean", x -> x.mean(0), NO);
    }

    private static void refusedOfSome() {
        not("row of another KIND", x -> x.row(1, 0, 5), STATE);
        not("row of a DANCER", x -> x.row(2, 3, 9), STATE);
        not("steady 3", x -> x.steady(3, 5), NONE);
        not("item of nothing", x -> x.item(5, 0, 5), NOTHING);
        not("judge CAST", x -> x.judge(1, 0), CAST);
        not("taken CAST", x -> x.taken(1, 6), CAST);
        not("shift CAST", x -> x.shift(1, 0, 2, 0, 3), CAST);
        not("shift from nothing", x -> x.shift(5, 0, 2, 0, 0), NOTHING);
        not("shift to nothing", x -> x.shift(2, 0, 5, 0, 1), NOTHING);
        for (int place : new int[] {-1, LEAST, 8, 60, MOST}) {
            not("item at " + place, x -> x.item(2, place, 5), PLACE);
            not("shift from " + place, x -> x.shift(2, place, 2, 0, 1), PLACE);
            not("shift to " + place, x -> x.shift(2, 0, 2, place, 1), PLACE);
            not("shift of " + place, x -> x.shift(2, 0, 2, 1, place), PLACE);
        }
        not("shift of one too many", x -> x.shift(2, 0, 2, 2, 5), PLACE);
        not("shift of one too many", x -> x.shift(2, 2, 2, 0, 5), PLACE);
    }

    private static void refusedWhenFull() {
        not("man", x -> x.man(2, 9, 1), FULL);
        not("feed", x -> x.feed('x'), FULL);
        not("charter", x -> x.charter(), FULL);
        not("hear", x -> x.hear(1, 1), FULL);
        for (int what = 0; what <= 3; what++) {
            int w = what;
            not("plan of " + what, x -> x.plan(w, 1), FULL);
        }
        not("book", x -> x.book(3, 20), FULL);
    }

    private static void refusedWhenLate() {
        not("pass 1", x -> x.pass(1), STATE);
        not("pass 60", x -> x.pass(60), STATE);
    }

    // ---- the twins

    private static List<Long> answers(CellarPlot x, List<Call> part) {
        List<Long> answers = new ArrayList<>();
        for (Call call : part) {
            answers.add(call.answer.applyAsLong(x));
        }
        return answers;
    }

    private static void same(String behind, List<Call> part, List<Long> got, List<Long> want) {
        for (int i = 0; i < part.size(); i++) {
            Due.due(part.get(i).name + " behind " + behind, got.get(i), want.get(i));
        }
    }

    private static List<List<Long>> untouched(int state) {
        List<List<Long>> want = new ArrayList<>();
        for (List<Call> part : PARTS) {
            want.add(answers(made(state), part));
        }
        return want;
    }

    private static final List<List<List<Long>>> UNTOUCHED = new ArrayList<>();

    private static void refused(int state, Call call, long want) {
        while (UNTOUCHED.size() <= state) {
            UNTOUCHED.add(untouched(UNTOUCHED.size()));
        }
        for (int part = 0; part < PARTS.size(); part++) {
            CellarPlot x = made(state);
            Due.due("refused " + call.name + " in state " + state, call.answer.applyAsLong(x), want);
            same("refused " + call.name + " in state " + state, PARTS.get(part), answers(x, PARTS.get(part)),
                UNTOUCHED.get(state).get(part));
        }
    }

    private static void asked(int state) {
        List<List<Long>> want = untouched(state);
        for (int first = 0; first < PARTS.size() - 1; first++) {
            for (int part = 0; part < PARTS.size(); part++) {
                CellarPlot x = made(state);
                answers(x, PARTS.get(first));
                same("asking part " + first + " in state " + state, PARTS.get(part), answers(x, PARTS.get(part)), want.get(part));
            }
        }
    }

    /** "-10 less the FAULT (the one that held holds)": just THE TEXT is another then, empty. */
    private static void faults() {
        String[] texts = {"x", "calm 9;", "loud 99 p<7;calm 0;loud 1 p", "hush 9 (p=1", "calm 1;calm 2;calm 3;calm 4;calm 5x"};
        int[] places = {0, 7, 27, 11, 34};
        for (List<Call> part : PARTS) {
            for (int i = 0; i < texts.length; i++) {
                CellarPlot plain = made(1);
                Due.due("a CHARTER", plain.charter(), 2);
                plain.undo();
                CellarPlot other = made(1);
                Due.due("a CHARTER", other.charter(), 2);
                other.undo();
                Due.due("a FAULT", Due.charter(other, texts[i]), -10 - places[i]);
                same("FAULT of " + texts[i], part, answers(other, part), answers(plain, part));
            }
        }
    }

    private static boolean isOfTheTrace(String name) {
        return name.startsWith("trace") || (name.contains("count") && name.endsWith(" 6"));
    }

    /** A refused act() leaves no TRACE, and all else as it was. */
    private static void acts() {
        int[][] refused = {{-1, 0}, {3, 0}, {6, 2}, {LEAST, 0}, {MOST, 0}, {0, -1}, {0, 3}, {1, LEAST}, {1, MOST}};
        for (int[] one : refused) {
            for (List<Call> part : PARTS) {
                CellarPlot plain = made(1);
                CellarPlot other = made(1);
                Due.due("act refused", other.act(one[0], one[1], 9), 0);
                Due.due("no TRACE", other.trace(0), NONE);
                Due.due("no bodies", other.count(6), 0);
                for (Call call : part) {
                    long want = call.answer.applyAsLong(plain);
                    long got = call.answer.applyAsLong(other);
                    if (!isOfTheTrace(call.name)) {
                        Due.due(call.name + " behind a refused act", got, want);
                    }
                }
            }
        }
    }
}
