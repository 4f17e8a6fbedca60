import java.util.function.ToLongFunction;

/**
 * Every call with every mixture of numbers about the bounds and far beyond, on
 * objects of which nothing is there, some, or all that there can be: none
 * throws, and the same calls give the same answers.
 */
public final class NeverThrowsTest {
    private static final int[] NUMBERS = {Integer.MIN_VALUE, -2, -1, 0, 1, 2, 5, 6, 12, 60, 9999, Integer.MAX_VALUE - 1, Integer.MAX_VALUE};
    private static final int[] FEW = {Integer.MIN_VALUE, -1, 0, 2, 5, 60, Integer.MAX_VALUE};
    /** So that making an object and its calls stay within 512. */
    private static final int CALLS = 300;

    private static CellarPlot x;
    private static CellarPlot twin;
    private static int calls;
    private static int state;

    public static void main(String[] args) {
        for (state = 0; state < 3; state++) {
            renew();
            ofOne();
            ofTwo();
            ofThree();
            shifts();
            signs();
        }
        Due.end();
    }

    private static CellarPlot made() {
        CellarPlot y = new CellarPlot();
        for (int men = 0; men < 3 * state; men++) {
            y.man(6 - men, men, 20 - men);
        }
        for (int n = 0; n < 5 * state; n++) {
            y.hear(n, n);
            y.plan(n % 4, 0);
            y.book(n % 3, n);
        }
        for (int tape = 0; tape < 3 * state; tape++) {
            y.tape(tape, tape % 5, tape * 12);
        }
        if (state > 0) {
            Due.charter(y, "loud 99 !(a>3|d<2)&n>1;hush 9 p>4;calm 2");
            y.image();
        }
        return y;
    }

    private static void renew() {
        x = made();
        twin = made();
        calls = 0;
    }

    private static void both(String call, ToLongFunction<CellarPlot> answer) {
        if (calls >= CALLS) {
            renew();
        }
        calls++;
        Due.due(call + " in state " + state, answer.applyAsLong(x), answer.applyAsLong(twin));
    }

    private static void ofOne() {
        for (int a : NUMBERS) {
            both("fear " + a, c -> c.fear(a));
            both("feed " + a, c -> c.feed(a));
            both("charter", c -> c.charter());
            both("told " + a, c -> c.told(a));
            both("pass " + a, c -> c.pass(a));
            both("mean " + a, c -> c.mean(a));
            both("ends " + a, c -> c.ends(a));
            both("looked", c -> c.looked());
            both("image", c -> c.image());
            both("undo", c -> c.undo());
            both("trace " + a, c -> c.trace(a));
            both("count " + a, c -> c.count(a));
        }
    }

    private static void ofTwo() {
        for (int a : NUMBERS) {
            for (int b : NUMBERS) {
                both("of " + a + " " + b, c -> c.of(a, b));
                both("steady " + a + " " + b, c -> c.steady(a, b));
                both("change " + a + " " + b, c -> c.change(a, b > 0));
                both("on " + a + " " + b, c -> c.on(a, b));
                both("best " + a + " " + b, c -> c.best(a, b));
                both("hear " + a + " " + b, c -> c.hear(a, b));
                both("can " + a + " " + b, c -> c.can(a, b));
                both("odds " + a + " " + b, c -> c.odds(a, b));
                both("plan " + a + " " + b, c -> c.plan(a, b));
                both("book " + a + " " + b, c -> c.book(a, b));
                both("judge " + a + " " + b, c -> c.judge(a, b));
                both("taken " + a + " " + b, c -> c.taken(a, b));
                both("read " + a + " " + b, c -> c.read(a, b));
            }
        }
    }

    private static void ofThree() {
        for (int a : NUMBERS) {
            for (int b : NUMBERS) {
                for (int n : NUMBERS) {
                    both("man " + a + " " + b + " " + n, c -> c.man(a, b, n));
                    both("row " + a + " " + b + " " + n, c -> c.row(a, b, n));
                    both("act " + a + " " + b + " " + n, c -> c.act(a, b, n));
                    both("tape " + a + " " + b + " " + n, c -> c.tape(a, b, n));
                    both("item " + a + " " + b + " " + n, c -> c.item(a, b, n * 4294967297L));
                }
            }
        }
    }

    private static void shifts() {
        for (int t : FEW) {
            for (int i : FEW) {
                for (int o : FEW) {
                    for (int j : FEW) {
                        for (int n : FEW) {
                            both("shift " + t + " " + i + " " + o + " " + j + " " + n, c -> c.shift(t, i, o, j, n));
                        }
                    }
                }
            }
        }
    }

    /** A text of each three signs behind some beginnings: where there is a FAULT it is within the text. */
    private static void signs() {
        for (String begun : new String[] {"", "calm ", "loud 1 ", "hush 22 (!p<3"}) {
            for (char a : "lhc 1;!(p=&|)\u0000\u007f".toCharArray()) {
                for (char b : "ou19 ;!(p=&|)".toCharArray()) {
                    for (char d : "u7 ;!(k>&|)".toCharArray()) {
                        String text = begun + a + b + d;
                        CellarPlot y = new CellarPlot();
                        Due.feed(y, text);
                        int answer = y.charter();
                        boolean may = answer == 0 || (answer <= -10 && answer >= -10 - text.length());
                        Due.due("charter of '" + text + "'", may ? 1 : 0, 1);
                        Due.due("THE TEXT is empty then", y.count(5), 0);
                    }
                }
            }
        }
    }
}
