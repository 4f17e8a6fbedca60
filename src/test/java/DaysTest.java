/** Promises 10 to 13: what is told, days, changing over. */
public final class DaysTest {
    private static final int NONE = -1, BAD = -2, STATE = -3, NEVER = -5;

    private static void due(String call, long got, long want) {
        Due.due(call, got, want);
    }

    /** COOKS with NERVE 0: their NOISE is v. */
    private static CellarPlot cooks(int... vs) {
        CellarPlot x = new CellarPlot();
        for (int v : vs) {
            x.man(1, v, 0);
        }
        return x;
    }

    public static void main(String[] args) {
        told();
        hushed();
        watches();
        days();
        pass();
        beyond();
        on();
        best();
        fright();
        Due.end();
    }

    private static void told() {
        CellarPlot x = cooks(9, 4, 0);
        x.fear(100);
        x.change(1, true);
        x.pass(1);
        x.pass(1);
        due("P10 DAY", x.told(0), 2);
        due("P10 CALM", x.told(1), 10);
        due("P10 FEAR", x.told(2), 98);
        due("P10 TRUTHS", x.told(3), 0);
        due("P10 SILENCES", x.told(4), 0);
        due("P10 SOUND", x.told(5), 9);
        due("P10 UP", x.told(6), 2);
        x.change(0, true);
        x.pass(2);
        due("P10 SILENCES", x.told(4), 2);
        due("P10 TRUTHS", x.told(3), 2);
        due("P10 all UP", x.told(6), 3);
        due("P10 what", x.told(10), NONE);
        due("P10 what below", x.told(-1), NONE);
    }

    private static void hushed() {
        due("P10 HUSHED now", cooks(0, 0).told(7), 0);
        due("P10 HUSHED never", cooks(1).told(7), NEVER);
        CellarPlot x = new CellarPlot();
        x.man(4, 3, 0);
        due("P10 HUSHED by SPELL", x.told(7), 3);
        x.pass(2);
        due("P10 HUSHED from now", x.told(7), 1);
        CellarPlot y = new CellarPlot();
        y.man(0, 0, 0);
        Due.charter(y, "loud 1 !(d=4&a=0)");
        due("P10 HUSHED by the 60th", y.told(7), 60);
        Due.charter(y, "loud 1 !(d=5&a=1)");
        due("P10 HUSHED not by then", y.told(7), NEVER);
        due("P10 asked, no DAY", y.told(0), 0);
    }

    private static void watch(CellarPlot x, int apart, int one) {
        due("P10 WATCHES: how much", x.told(8), apart);
        due("P10 WATCHES: the one", x.told(9), one);
    }

    private static void watches() {
        watch(cooks(5, 3, 2), 0, 1);
        watch(cooks(4, 1, 3, 9), 1, 7);
        watch(cooks(1, 1, 1, 1), 0, 3);
        watch(cooks(0, 0, 0), 0, 1);
        watch(cooks(7), 7, 1);
        watch(cooks(1, 9, 8), 0, 5);
        watch(cooks(9, 9, 9, 1, 1, 1), 6, 3);
        CellarPlot x = cooks(5, 3, 2, 2);
        x.change(0, true);
        watch(x, 1, 2);
        x.change(1, true);
        x.change(3, true);
        watch(x, 2, 4);
        x.change(2, true);
        watch(x, 0, 0);
        CellarPlot y = cooks(2, 5);
        y.man(0, 0, 20);
        watch(y, 3, 1);
    }

    private static void day(int fear, CellarPlot x, int then, int truths, int silences) {
        x.fear(fear);
        x.pass(1);
        due("P11 FEAR of " + fear, x.told(2), then);
        due("P11 TRUTHS of " + fear, x.told(3), truths);
        due("P11 SILENCES of " + fear, x.told(4), silences);
    }

    private static void days() {
        day(0, cooks(9), 0, 0, 0);
        day(2, cooks(9), 1, 0, 0);
        day(100, cooks(9), 99, 0, 0);
        day(101, cooks(9), 50, 1, 0);
        day(104, cooks(9), 51, 1, 0);
        day(9999, cooks(9), 4999, 1, 0);
        day(0, cooks(0), 50, 0, 1);
        day(49, cooks(0), 99, 0, 1);
        day(50, cooks(0), 50, 1, 1);
        day(9999, cooks(0), 4999, 1, 1);
        day(9960, cooks(), 4999, 1, 1);
        CellarPlot x = cooks(9);
        Due.charter(x, "calm 0");
        day(9999, x, 4999, 1, 0);
        x.fear(0);
        x.pass(1);
        due("P11 SOUND more, no CALM", x.told(2), 9);
        CellarPlot y = cooks(9, 9);
        y.man(6, 0, 0);
        y.row(2, 1, 9);
        y.pass(2);
        due("P11 by how all is ahead of it", y.told(2), 8 + 17);
        CellarPlot z = new CellarPlot();
        z.man(5, 0, 20);
        z.man(0, 0, 20);
        z.pass(1);
        due("P11 SOUND of 1 - 5 below 0", z.told(2), 0);
        due("P11 is no silence", z.told(4), 0);
    }

    private static void pass() {
        CellarPlot x = cooks(0);
        due("P11 no DAY", x.pass(0), 0);
        due("P11 too many", x.pass(61), BAD);
        due("P11 below 0", x.pass(-1), BAD);
        due("P11 60", x.pass(60), 60);
        due("P11 SPELL", x.of(0, 4), 60);
        due("P11 SILENCES", x.told(4), 60);
        due("P11 TRUTHS", x.told(3), 59);
    }

    private static void beyond() {
        CellarPlot x = new CellarPlot();
        x.man(0, 0, 0);
        for (int n = 0; n < 166; n++) {
            x.pass(60);
        }
        due("P11 STATE", x.pass(40), STATE);
        due("P11 stays", x.told(0), 9960);
        due("P11 9999", x.pass(39), 9999);
        due("P11 STATE again", x.pass(1), STATE);
        due("P11 BAD ahead of STATE", x.pass(61), BAD);
        due("P11 none goes", x.pass(0), 9999);
        due("P11 SPELL", x.of(0, 4), 9999);
        due("P11 SILENCES", x.told(4), 9999);
        due("P11 TRUTHS", x.told(3), 9998);
        due("P12 SILENCES beyond", x.on(60, 2), 10059);
        due("P12 TRUTHS beyond", x.on(60, 1), 10058);
        due("P13 TRUTHS beyond", x.best(12, 1), 10010);
        due("P13 FRIGHT beyond", x.best(12, 2), 0);
        due("P16 ODDS beyond", x.odds(20, 0), 1);
        Due.charter(x, "loud 5 a=0;loud 3 d=4");
        due("P12 SPELL 9999", x.on(0, 3), 0);
        due("P12 SPELL beyond, DAY beyond", x.on(1, 3), 5 + 3);
        due("P12 SPELL beyond", x.on(2, 3), 0);
        for (int n = 0; n < 4; n++) {
            x.plan(0, 0);
        }
        due("P19 TRUTHS beyond", x.ends(1), 10000);
    }

    private static void on() {
        CellarPlot x = cooks(9, 8);
        x.fear(96);
        due("P12 FEAR now", x.on(0, 0), 96);
        due("P12 FEAR", x.on(1, 0), 51);
        due("P12 FEAR of 2", x.on(2, 0), 58);
        due("P12 TRUTHS", x.on(2, 1), 1);
        due("P12 SILENCES", x.on(60, 2), 0);
        due("P12 SOUND", x.on(60, 3), 17);
        due("P12 what ahead of n", x.on(61, 4), NONE);
        due("P12 what below", x.on(0, -1), NONE);
        due("P12 n", x.on(61, 0), BAD);
        due("P12 n below", x.on(-1, 3), BAD);
        due("P12 changes nothing", x.told(2), 96);
        due("P12 no SPELL", x.of(0, 4), 0);
        CellarPlot y = new CellarPlot();
        y.man(4, 5, 0);
        due("P12 SOUND behind n", y.on(4, 3), 1);
        due("P12 SILENCES behind n", y.on(8, 2), 3);
    }

    private static void best() {
        CellarPlot x = cooks(9);
        due("P13 as many: none", x.best(1, 0), 0);
        due("P13 a silence is more", x.best(2, 0), 1);
        due("P13 TRUTHS", x.best(2, 1), 1);
        due("P13 TRUTHS of 12", x.best(12, 1), 11);
        due("P13 what ahead of n", x.best(0, 3), NONE);
        due("P13 what below", x.best(1, -1), NONE);
        due("P13 n", x.best(13, 0), BAD);
        due("P13 n below", x.best(0, 1), BAD);
        due("P13 n of FRIGHT", x.best(0, 2), BAD);
        x.change(0, true);
        due("P13 were just these UP", x.best(2, 0), 1);
        due("P13 asked", x.told(3), 0);
        CellarPlot y = cooks(0, 9, 0);
        y.fear(50);
        due("P13 the fewest: just the loud one", y.best(1, 0), 2);
        y.change(0, true);
        y.change(2, true);
        due("P13 the fewest, not those that are", y.best(1, 0), 2);
        fewest();
        CellarPlot none = new CellarPlot();
        due("P13 no MEN", none.best(12, 0), 0);
        due("P13 no MEN, TRUTHS", none.best(12, 1), 11);
        due("P13 no MEN, FRIGHT", none.best(2, 2), 0);
        due("P13 no MEN, no FRIGHT", none.best(1, 2), NEVER);
    }

    /** {2} and {0, 1} UP have one TRUTH behind 2, by a silence on the second DAY or on the first. */
    private static void fewest() {
        CellarPlot x = new CellarPlot();
        x.man(0, 0, 0);
        x.man(0, 0, 0);
        x.man(0, 0, 0);
        Due.charter(x, "loud 45 p<2&d=0;loud 90 p=2&d=1;calm 60");
        x.fear(34);
        due("P13 the fewest, not the least bits", x.best(2, 0), 4);
        due("P13 how many then", x.best(2, 1), 1);
        Due.charter(x, "calm 16;loud 19 p=1&d=1;loud 61 p=2&d=0");
        x.fear(49);
        due("P13 of as few, the least bits", x.best(2, 0), 2);
        due("P13 how many then", x.best(2, 1), 1);
    }

    private static void fright() {
        CellarPlot x = cooks(9);
        due("P13 none is enough", x.best(1, 2), NEVER);
        due("P13 none below is enough", x.best(2, 2), 0);
        CellarPlot y = cooks(0, 0, 0);
        Due.charter(y, "loud 60 p<2;loud 99 p=2;loud 21 p=2");
        due("P13 the fewest, not the least bits", y.best(1, 2), 4);
        Due.charter(y, "loud 60 p<2;loud 40 p=2");
        due("P13 two", y.best(1, 2), 3);
        Due.charter(y, "loud 55 p>0");
        due("P13 two others", y.best(1, 2), 6);
        Due.charter(y, "loud 99 p>0;loud 21 p>0");
        due("P13 the least bits", y.best(1, 2), 2);
        y.change(1, true);
        due("P13 were just these below", y.best(1, 2), 2);
        due("P13 who is UP stays", y.told(6), 2);
    }
}
