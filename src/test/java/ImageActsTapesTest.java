/** Promises 22 to 32: judging, the image, acts, tapes. */
public final class ImageActsTapesTest {
    private static final int NONE = -1, BAD = -2, STATE = -3, NEVER = -5;
    private static final int NOTHING = -11, CAST = -12, PLACE = -13, SIZE = -14;
    private static final int LEAST = Integer.MIN_VALUE, MOST = Integer.MAX_VALUE;
    private static final long NO = Long.MIN_VALUE;

    private static void due(String call, long got, long want) {
        Due.due(call, got, want);
    }

    public static void main(String[] args) {
        judge();
        image();
        imageOfMen();
        imageOfRows();
        acts();
        refusedActs();
        taken();
        count();
        tape();
        item();
        shift();
        Due.end();
    }

    private static void judge() {
        CellarPlot x = new CellarPlot();
        due("P22 no MEN, nothing there", x.judge(0, 0), NEVER);
        due("P22 no MEN, below 0", x.judge(0, -1), NEVER);
        x.tape(1, 3, 9);
        due("P22 CAST though no MEN", x.judge(1, 0), CAST);
        for (int n = 0; n < 3; n++) {
            x.man(0, 0, 0);
        }
        x.pass(4);
        x.change(1, true);
        x.pass(1);
        due("P22 tape", x.judge(6, 0), NONE);
        due("P22 tape below", x.judge(-1, 0), NONE);
        due("P22 CAST", x.judge(1, -1), CAST);
        due("P22 nothing there", x.judge(0, 0), 100);
        x.tape(0, 2, 5);
        due("P22 all 0", x.judge(0, 0), 0);
        x.item(0, 1, 5);
        x.item(0, 3, 5);
        due("P22 none is otherwise", x.judge(0, 1), NEVER);
        x.item(0, 3, 4);
        due("P22 the last is", x.judge(0, 1), 2);
        x.item(0, 2, 1);
        due("P22 the first that is", x.judge(0, 1), 1);
        x.item(0, 3, 5);
        x.item(0, 4, 0);
        due("P22 ends behind two", x.judge(0, 3), 102);
        x.item(0, 4, 5);
        due("P22 ends behind one", x.judge(0, 4), 101);
        due("P22 at the end", x.judge(0, 5), 100);
        due("P22 beyond the end", x.judge(0, 6), 100);
        due("P22 far beyond", x.judge(0, MOST), 100);
        due("P22 below 0", x.judge(0, -1), 100);
        due("P22 far below", x.judge(0, LEAST), 100);
        due("P22 the last tape", x.judge(5, 0), 100);
        for (int sort = 0; sort <= 4; sort++) {
            x.tape(2, sort, 3);
            due("P22 sort " + sort, x.judge(2, 0), sort == 2 ? 0 : CAST);
        }
    }

    private static void image() {
        CellarPlot x = new CellarPlot();
        due("P24 none", x.undo(), STATE);
        x.man(6, 5, 9);
        x.row(0, 1, 7);
        x.fear(60);
        x.hear(3, 7);
        x.plan(3, 0);
        x.book(0, 8);
        Due.charter(x, "calm 3");
        x.pass(4);
        int[] told = new int[10];
        for (int what = 0; what < 10; what++) {
            told[what] = x.told(what);
        }
        int[] of = new int[7];
        for (int what = 0; what < 7; what++) {
            of[what] = x.of(0, what);
        }
        due("P23 image", x.image(), 1);
        x.steady(0, 0);
        x.row(0, 1, 2);
        x.change(0, true);
        x.hear(-1, 0);
        x.hear(1, 1);
        x.hear(1, 2);
        x.plan(0, 0);
        x.book(-1, 0);
        Due.charter(x, "calm 44");
        x.fear(9000);
        x.pass(3);
        Due.feed(x, "cal");
        x.tape(0, 0, 1);
        x.act(0, 0, 0);
        x.man(1, 1, 1);
        for (int again = 0; again < 2; again++) {
            due("P24 undo", x.undo(), 1);
            for (int what = 0; what < 10; what++) {
                due("P24 told " + what, x.told(what), told[what]);
            }
            for (int what = 0; what < 7; what++) {
                due("P24 of " + what, x.of(0, what), of[what]);
            }
            due("P24 HEARD", x.count(2), 1);
            due("P24 the PLAN", x.count(3), 1);
            due("P24 the PLAN's row", x.ends(0), 0);
            due("P24 the BOOK", x.count(4), 1);
            due("P24 the BOOK's row", x.looked(), 0);
            due("P24 no second MAN", x.of(1, 0), -10001);
            due("P24 its ROW", x.row(0, 1, 7), 7);
            due("P24 CHARTERS stay", x.count(1), 2);
            due("P24 THE TEXT stays", x.count(5), 3);
            due("P24 TAPES stay", x.read(0, 0), 0);
            due("P24 THE TRACE stays", x.trace(0), 71);
            x.pass(5);
            x.fear(1);
        }
        due("P24 the next CHARTER is the third", Due.charter(x, "m 9"), 2);
        due("P24 it holds", x.told(1), 9);
        x.image();
        x.fear(1234);
        x.undo();
        due("P23 the newest image", x.told(1), 9);
    }

    private static void imageOfMen() {
        CellarPlot x = new CellarPlot();
        due("P23 no MEN", x.image(), 0);
        x.man(6, 0, 0);
        x.row(0, 0, 9);
        x.change(0, true);
        x.pass(1);
        x.change(0, false);
        x.pass(1);
        Due.charter(x, "calm 5");
        due("P24 no MEN", x.undo(), 0);
        due("P24 without a CHARTER", x.told(1), 10);
        x.man(6, 0, 0);
        due("P2 a new one's SPELL", x.of(0, 4), 0);
        due("P2 a new one is below", x.of(0, 3), 0);
        due("P2 a new one's ROW", x.row(0, 0, 0), 0);
    }

    /** The second number of each row is theirs, too. */
    private static void imageOfRows() {
        CellarPlot x = new CellarPlot();
        x.man(1, 5, 4);
        x.man(1, 0, 0);
        x.hear(0, 4);
        x.book(0, 4);
        x.plan(1, 1);
        x.image();
        x.hear(-1, 0);
        x.hear(0, 9);
        x.book(-1, 0);
        x.book(0, 9);
        x.plan(-1, 0);
        x.plan(1, 0);
        x.plan(0, 0);
        due("P19 ahead of undo", x.ends(0), 50);
        x.undo();
        due("P24 HEARD", x.of(0, 6), 0xf0);
        due("P24 the BOOK", x.looked(), NEVER);
        x.plan(0, 0);
        due("P24 the PLAN", x.ends(0), 0);
    }

    private static void act(CellarPlot x, int man, int act, int in, int out, int... bodies) {
        String call = "P25 act " + man + " " + act + " " + in;
        due(call, x.act(man, act, in), out);
        due("P28 bodies of " + call, x.count(6), bodies.length);
        for (int i = 0; i < bodies.length; i++) {
            due("P26 trace " + i + " of " + call, x.trace(i), bodies[i]);
        }
        due("P26 behind " + call, x.trace(bodies.length), NONE);
        due("P26 below " + call, x.trace(-1), NONE);
    }

    private static void acts() {
        CellarPlot x = new CellarPlot();
        int[] v = {5, 3, 7, 4, 4, 6};
        for (int n = 0; n < 6; n++) {
            x.man(n + 1, v[n], 0);
        }
        act(x, 0, 0, 7, 7, 10);
        act(x, 0, 1, 7, 4, 20, 11, 10);
        act(x, 0, 2, 7, 8, 12, 20, 11, 10);
        act(x, 1, 0, 7, 22, 30, 10);
        act(x, 1, 1, 7, 19, 11, 30, 10);
        act(x, 1, 2, 7, 38, 12, 11, 30, 10);
        act(x, 2, 0, 7, 9, 10);
        act(x, 2, 1, 7, 2, 11, 10);
        act(x, 2, 2, 7, 0, 40, 12, 11, 10, 11, 10);
        act(x, 3, 0, 7, -10, 50, 10);
        act(x, 3, 1, 7, -9, 51, 20, 11, 50, 10);
        act(x, 3, 2, 7, -18, 12, 51, 20, 11, 50, 10);
        act(x, 4, 0, 7, 25, 30, 10);
        act(x, 4, 1, 7, 21, 11, 30, 10);
        act(x, 4, 2, 7, 18, 60, 12, 11, 30, 10);
        act(x, 5, 0, 7, 10, 71, 10);
        act(x, 5, 1, 7, 11, 70, 11, 71, 10, 10);
        act(x, 5, 2, 7, 23, 40, 12, 70, 11, 71, 10, 10, 70, 11, 71, 10, 10);
        act(x, 1, 0, MOST, MOST - 1, 30, 10);
        act(x, 3, 0, MOST, -(LEAST + 2), 50, 10);
        CellarPlot y = new CellarPlot();
        y.man(0, 6, 0);
        y.man(0, 6, 0);
        act(y, 0, 0, -1, -1, 10);
        act(y, 0, 1, -1, -7, 11, 10);
        act(y, 0, 2, -1, -14, 12, 11, 10);
        act(y, 1, 0, MOST, LEAST, 10);
        act(y, 1, 2, LEAST, -10, 12, 11, 10);
    }

    private static void refusedActs() {
        CellarPlot x = new CellarPlot();
        x.man(0, 6, 0);
        int[][] refused = {{1, 0}, {-1, 0}, {0, 3}, {0, -1}};
        for (int[] one : refused) {
            x.act(0, 2, 7);
            due("P25 refused", x.act(one[0], one[1], 7), 0);
            due("P25 no TRACE then", x.trace(0), NONE);
            due("P25 no bodies then", x.count(6), 0);
        }
    }

    private static void taken() {
        CellarPlot x = new CellarPlot();
        due("P27 BAD ahead of NOTHING", x.taken(0, 7), BAD);
        due("P27 BAD below", x.taken(0, -1), BAD);
        due("P27 NOTHING", x.taken(0, 0), NOTHING);
        due("P27 NOTHING below", x.taken(-1, 6), NOTHING);
        String[] isA = {"0", "01", "02", "03", "014", "025", "036"};
        for (int kind = 0; kind < 7; kind++) {
            CellarPlot y = new CellarPlot();
            y.man(kind, 0, 0);
            for (int k = 0; k < 7; k++) {
                due("P27 " + kind + " for " + k, y.taken(0, k), isA[kind].indexOf('0' + k) >= 0 ? kind : CAST);
            }
            due("P27 NOTHING else", y.taken(1, 0), NOTHING);
        }
    }

    private static void count() {
        CellarPlot x = new CellarPlot();
        x.man(0, 0, 0);
        x.man(0, 0, 0);
        x.charter();
        Due.charter(x, "calm 1");
        x.hear(0, 0);
        x.plan(0, 0);
        x.plan(0, 0);
        x.plan(0, 0);
        for (int n = 0; n < 4; n++) {
            x.book(0, 0);
        }
        Due.feed(x, "ABCDE");
        x.act(0, 2, 0);
        int[] want = {2, 1, 1, 3, 4, 5, 3};
        for (int what = 0; what < 7; what++) {
            due("P28 count " + what, x.count(what), want[what]);
        }
        due("P28 what", x.count(7), BAD);
        due("P28 what below", x.count(-1), BAD);
    }

    private static void tape() {
        CellarPlot x = new CellarPlot();
        due("P29 tape", x.tape(6, 9, 0), NONE);
        due("P29 tape below", x.tape(-1, 0, 0), NONE);
        due("P29 sort", x.tape(0, 5, -1), BAD);
        due("P29 sort below", x.tape(0, -2, 0), BAD);
        due("P29 n above 60", x.tape(0, 0, 61), BAD);
        due("P29 SIZE", x.tape(0, 0, -1), SIZE);
        due("P29 SIZE far below", x.tape(0, 4, LEAST), SIZE);
        due("P29 refused: holds nothing", x.item(0, 0, 0), NOTHING);
        due("P29 holds nothing, n does not matter", x.tape(0, -1, 61), 1);
        due("P29 holds nothing, n below 0", x.tape(0, -1, -1), 1);
        due("P29 none of a sort", x.tape(0, 2, 0), 1);
        due("P29 none of a sort: no place", x.item(0, 0, 0), PLACE);
        due("P29 60", x.tape(5, 3, 60), 1);
        due("P29 the 60th", x.item(5, 59, -7), 1);
        due("P29 no 61st", x.item(5, 60, 0), PLACE);
        x.item(5, 0, 8);
        due("P29 refused: stays", x.tape(5, 3, 61), BAD);
        due("P29 stays", x.read(5, 59), -7);
        due("P29 new, all 0", x.tape(5, 3, 60), 1);
        due("P29 0", x.read(5, 59), 0);
        due("P29 0 at first", x.read(5, 0), 0);
        x.item(5, 2, 9);
        due("P29 becomes nothing", x.tape(5, -1, 0), 1);
        due("P29 nothing", x.read(5, 2), NO);
        due("P29 nothing at first", x.read(5, 0), NO);
        due("P29 shorter", x.tape(5, 2, 2), 1);
        due("P29 no third", x.read(5, 2), NO);
    }

    private static void stays(int sort, long v, long want) {
        CellarPlot x = new CellarPlot();
        x.tape(3, sort, 2);
        due("P30 item of sort " + sort, x.item(3, 1, v), 1);
        due("P31 read of sort " + sort, x.read(3, 1), want);
        due("P31 the other of sort " + sort, x.read(3, 0), 0);
    }

    private static void item() {
        stays(0, 127, 127);
        stays(0, 128, -128);
        stays(0, 256, 0);
        stays(1, 32768, -32768);
        stays(1, -32769, 32767);
        stays(2, 1L << 31, LEAST);
        stays(2, (1L << 32) + 5, 5);
        stays(3, Long.MAX_VALUE, Long.MAX_VALUE);
        stays(3, NO, NO);
        stays(4, 0, 0);
        stays(4, 1, 1);
        stays(4, -4, 1);
        stays(4, 1L << 40, 1);
        CellarPlot x = new CellarPlot();
        due("P30 tape", x.item(6, -1, 0), NONE);
        due("P30 tape below", x.item(-1, 0, 0), NONE);
        due("P30 NOTHING ahead of PLACE", x.item(0, -1, 0), NOTHING);
        x.tape(0, 0, 3);
        due("P30 PLACE", x.item(0, 3, 0), PLACE);
        due("P30 PLACE below", x.item(0, -1, 0), PLACE);
        due("P31 tape", x.read(6, 0), NO);
        due("P31 tape below", x.read(-1, 0), NO);
        due("P31 nothing there", x.read(1, 0), NO);
        due("P31 place", x.read(0, 3), NO);
        due("P31 place below", x.read(0, -1), NO);
        due("P31 the last", x.read(0, 2), 0);
    }

    private static void row(CellarPlot x, int tape, int... want) {
        for (int i = 0; i < want.length; i++) {
            due("P32 read " + tape + " " + i, x.read(tape, i), want[i]);
        }
    }

    private static CellarPlot counted() {
        CellarPlot x = new CellarPlot();
        x.tape(0, 2, 5);
        for (int i = 0; i < 5; i++) {
            x.item(0, i, i + 1);
        }
        x.tape(1, 2, 3);
        x.tape(2, 1, 9);
        return x;
    }

    private static void shift() {
        CellarPlot x = counted();
        due("P32 up", x.shift(0, 0, 0, 1, 4), 4);
        row(x, 0, 1, 1, 2, 3, 4);
        x = counted();
        due("P32 down", x.shift(0, 1, 0, 0, 4), 4);
        row(x, 0, 2, 3, 4, 5, 5);
        x = counted();
        due("P32 another", x.shift(0, 2, 1, 0, 3), 3);
        row(x, 1, 3, 4, 5);
        row(x, 0, 1, 2, 3, 4, 5);
        due("P32 none at the ends", x.shift(0, 5, 1, 3, 0), 0);
        due("P32 none beyond the end", x.shift(0, 6, 1, 0, 0), PLACE);
        due("P32 none beyond the other's end", x.shift(0, 0, 1, 4, 0), PLACE);
        due("P32 tape", x.shift(6, 0, 3, 0, 0), NONE);
        due("P32 tape below", x.shift(-1, 0, 0, 0, 0), NONE);
        due("P32 the other", x.shift(3, 0, 6, 0, 0), NONE);
        due("P32 the other below", x.shift(0, 0, -1, 0, 0), NONE);
        due("P32 nothing there", x.shift(3, -1, 2, 0, 0), NOTHING);
        due("P32 nothing at the other", x.shift(0, -1, 3, 0, 0), NOTHING);
        due("P32 CAST", x.shift(0, -1, 2, 0, 0), CAST);
        x.tape(5, 2, 1);
        due("P32 from the last tape", x.shift(5, 0, 5, 0, 1), 1);
        due("P32 n below 0", x.shift(0, 0, 1, 0, -1), PLACE);
        due("P32 i below 0", x.shift(0, -1, 1, 0, 1), PLACE);
        due("P32 j below 0", x.shift(0, 0, 1, -1, 1), PLACE);
        due("P32 beyond the end", x.shift(0, 4, 1, 0, 2), PLACE);
        due("P32 beyond the other's end", x.shift(0, 0, 1, 2, 2), PLACE);
        due("P32 far beyond", x.shift(0, MOST, 1, 0, 1), PLACE);
        due("P32 far beyond, n", x.shift(0, 1, 1, 1, MOST), PLACE);
        due("P32 far below", x.shift(0, LEAST, 1, LEAST, LEAST), PLACE);
        row(x, 1, 3, 4, 5);
    }
}
