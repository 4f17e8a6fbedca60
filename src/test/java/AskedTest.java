/** Promises 14 to 21: heard, odds, means, plans, books. */
public final class AskedTest {
    private static final int NONE = -1, BAD = -2, FULL = -4, NEVER = -5;
    private static final long NO = Long.MIN_VALUE;

    private static void due(String call, long got, long want) {
        Due.due(call, got, want);
    }

    private static CellarPlot cooks(int... vs) {
        CellarPlot x = new CellarPlot();
        for (int v : vs) {
            x.man(1, v, 0);
        }
        return x;
    }

    public static void main(String[] args) {
        hear();
        can();
        odds();
        mean();
        plan();
        ends();
        book();
        Due.end();
    }

    private static void hear() {
        CellarPlot x = new CellarPlot();
        due("P14 n", x.hear(13, 0), BAD);
        due("P14 n below", x.hear(-2, 0), BAD);
        due("P14 sound", x.hear(0, 1000), BAD);
        due("P14 sound below", x.hear(0, -1), BAD);
        due("P14 refused ones don't come", x.count(2), 0);
        due("P14 least", x.hear(0, 0), 1);
        due("P14 most", x.hear(12, 999), 2);
        for (int n = 3; n <= 5; n++) {
            due("P14 comes", x.hear(1, 1), n);
        }
        due("P14 FULL", x.hear(1, 1), FULL);
        due("P14 BAD ahead of FULL", x.hear(13, 1), BAD);
        due("P14 BAD sound ahead of FULL", x.hear(1, 1000), BAD);
        due("P14 five", x.count(2), 5);
        due("P14 none then", x.hear(-1, 1000), 0);
        due("P14 none", x.count(2), 0);
        due("P14 first again", x.hear(1, 1), 1);
    }

    private static void can() {
        CellarPlot x = cooks(2, 3);
        due("P15 nothing heard: how many", x.can(0, 0), 10);
        due("P15 nothing heard: the least", x.can(0, 1), 0);
        x.hear(0, 5);
        due("P15 one", x.can(0, 0), 1);
        due("P15 it", x.can(0, 1), 2);
        due("P15 the other one's", x.can(1, 1), 3);
        x.hear(12, 5);
        due("P15 as long", x.can(0, 1), 2);
        x.hear(4, 6);
        due("P15 not all of HEARD: how many", x.can(0, 0), 0);
        due("P15 not all of HEARD: the least", x.can(0, 1), NEVER);
        due("P15 man", x.can(2, 0), NONE);
        due("P15 man below", x.can(-1, 0), NONE);
        due("P15 what", x.can(0, 2), NONE);
        due("P15 what below", x.can(0, -1), NONE);
        CellarPlot y = new CellarPlot();
        y.man(0, 1, 0);
        Due.charter(y, "loud 3 v>6");
        y.hear(0, 3);
        due("P15 v in a TEST: how many", y.can(0, 0), 3);
        due("P15 v in a TEST: the least", y.can(0, 1), 7);
        Due.charter(y, "loud 3 v>8");
        due("P15 just 9: the least", y.can(0, 1), 9);
        for (int n = 2; n <= 5; n++) {
            y.hear(n, 3);
        }
        due("P15 five rows", y.can(0, 0), 1);
        due("P3 NERVES by five rows", y.of(0, 6), 0);
        y.change(0, true);
        due("P15 one that is UP", y.can(0, 0), 0);
        CellarPlot z = new CellarPlot();
        z.man(4, 9, 0);
        z.pass(1);
        z.hear(2, 3);
        due("P15 days from now", z.can(0, 1), 6);
        due("P15 asked", z.of(0, 1), 9);
    }

    private static void odds(CellarPlot x, int n, long above, long below) {
        due("P16 above", x.odds(n, 0), above);
        due("P16 below", x.odds(n, 1), below);
    }

    private static void odds() {
        CellarPlot x = cooks(9);
        x.fear(95);
        odds(x, 0, 0, 1);
        odds(x, 1, 1, 1);
        x.change(0, true);
        odds(x, 1, 0, 1);
        x = cooks(9, 0, 0);
        x.fear(95);
        odds(x, 1, 1, 3);
        x.man(0, 0, 0);
        Due.charter(x, "loud 99 p=3;loud 21 p=3");
        x.change(3, true);
        odds(x, 1, 1, 2);
        due("P16 asked", x.told(6), 8);
        due("P16 n", x.odds(21, 0), NO);
        due("P16 n below", x.odds(-1, 0), NO);
        due("P16 part", x.odds(0, 2), NO);
        due("P16 part below", x.odds(0, -1), NO);
        due("P16 n 20", x.odds(20, 1) > 0 ? 1 : 0, 1);
        due("P16 no MEN", new CellarPlot().odds(1, 1), NO);
        // TRUTHS behind n are more than now, not more than without the change.
        CellarPlot y = cooks(0, 0);
        y.fear(50);
        odds(y, 1, 1, 1);
    }

    private static void mean(CellarPlot x, long above, long below) {
        due("P17 above", x.mean(0), above);
        due("P17 below", x.mean(1), below);
    }

    private static void mean() {
        CellarPlot x = new CellarPlot();
        mean(x, NO, NO);
        x.man(0, 0, 0);
        mean(x, 0, 1);
        x.man(0, 0, 1);
        mean(x, 1, 2);
        x.man(0, 0, 5);
        mean(x, 2, 1);
        x.man(0, 0, 4);
        mean(x, 5, 2);
        x.change(0, true);
        mean(x, 10, 3);
        due("P17 part", x.mean(2), NO);
        due("P17 part below", x.mean(-1), NO);
        x.change(1, true);
        x.change(2, true);
        x.change(3, true);
        mean(x, NO, NO);
    }

    private static void plan() {
        CellarPlot x = cooks(9);
        due("P18 what", x.plan(4, 0), NONE);
        due("P18 what below", x.plan(-2, 0), NONE);
        due("P18 man by 1", x.plan(1, 1), NONE);
        due("P18 man by 2", x.plan(2, -1), NONE);
        due("P18 none came", x.count(3), 0);
        due("P18 a DAY, whatever the other is", x.plan(0, -7), 1);
        due("P18 FEAR, whatever the other is", x.plan(3, 99), 2);
        due("P18 UP", x.plan(1, 0), 3);
        due("P18 not UP", x.plan(2, 0), 4);
        for (int n = 5; n <= 10; n++) {
            due("P18 comes", x.plan(0, 0), n);
        }
        due("P18 FULL", x.plan(0, 0), FULL);
        due("P18 what ahead of FULL", x.plan(4, 0), NONE);
        due("P18 man ahead of FULL", x.plan(1, 1), NONE);
        due("P18 ten", x.count(3), 10);
        due("P18 empty, whatever the other is", x.plan(-1, -9), 0);
        due("P18 none", x.count(3), 0);
        due("P18 first again", x.plan(0, 0), 1);
    }

    private static void ends() {
        CellarPlot x = cooks(9);
        x.fear(77);
        due("P19 no rows: FEAR", x.ends(0), 77);
        due("P19 no rows: TRUTHS", x.ends(1), 0);
        x.plan(3, 0);
        due("P19 FEAR is 0", x.ends(0), 0);
        x.plan(1, 0);
        x.plan(0, 0);
        due("P19 a DAY of silence", x.ends(0), 50);
        x.plan(0, 0);
        due("P19 TRUTHS", x.ends(1), 1);
        x.plan(2, 0);
        x.plan(0, 0);
        due("P19 not UP again", x.ends(0), 49);
        due("P19 what", x.ends(2), NONE);
        due("P19 what below", x.ends(-1), NONE);
        due("P19 asked: FEAR", x.told(2), 77);
        due("P19 asked: UP", x.told(6), 0);
        due("P19 asked: DAY", x.told(0), 0);
    }

    private static void book() {
        CellarPlot x = new CellarPlot();
        due("P20 no such man", x.book(0, 0), NONE);
        x.man(0, 0, 4);
        x.man(0, 0, 7);
        due("P21 no rows", x.looked(), NEVER);
        due("P20 NONE ahead of BAD", x.book(2, 21), NONE);
        due("P20 NONE below", x.book(-2, 0), NONE);
        due("P20 BAD", x.book(0, 21), BAD);
        due("P20 BAD below", x.book(0, -1), BAD);
        due("P20 first", x.book(0, 4), 1);
        due("P20 second", x.book(1, 7), 2);
        due("P21 none is otherwise", x.looked(), NEVER);
        due("P20 third", x.book(0, 5), 3);
        due("P21 the third", x.looked(), 2);
        due("P20 fourth", x.book(1, 6), 4);
        due("P21 the first of several", x.looked(), 2);
        x.steady(1, 0);
        due("P21 now", x.looked(), 1);
        x.steady(0, 5);
        due("P21 the first", x.looked(), 0);
        for (int n = 5; n <= 8; n++) {
            due("P20 comes", x.book(0, 20), n);
        }
        due("P20 FULL", x.book(0, 0), FULL);
        due("P20 NONE ahead of FULL", x.book(2, 0), NONE);
        due("P20 BAD ahead of FULL", x.book(0, 21), BAD);
        due("P20 eight", x.count(4), 8);
        due("P20 empty, whatever the other is", x.book(-1, 99), 0);
        due("P21 none left", x.looked(), NEVER);
        due("P20 first again", x.book(1, 0), 1);
        CellarPlot y = new CellarPlot();
        due("P20 empty without MEN", y.book(-1, 0), 0);
    }
}
