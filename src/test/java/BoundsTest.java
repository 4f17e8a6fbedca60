import java.util.function.IntToLongFunction;

/**
 * What each call takes, promise by promise: the last value taken and the first
 * refused on either side, far beyond, nothing there yet, full, and which of
 * several refusals is answered.
 */
public final class BoundsTest {
    private static final int NONE = -1, BAD = -2, STATE = -3, FULL = -4, NEVER = -5, NONE_BELOW = -10001;
    private static final int NOTHING = -11, CAST = -12, PLACE = -13, SIZE = -14;
    private static final int LEAST = Integer.MIN_VALUE, MOST = Integer.MAX_VALUE;
    private static final long NO = Long.MIN_VALUE;

    private static void due(String call, long got, long want) {
        Due.due(call, got, want);
    }

    /** The first refused on either side of least .. most, and far beyond. */
    private static void refused(String call, int least, int most, long want, IntToLongFunction answer) {
        for (int n : new int[] {least - 1, least - 2, LEAST, LEAST + 1, most + 1, most + 2, MOST - 1, MOST}) {
            due(call + " of " + n, answer.applyAsLong(n), want);
        }
    }

    /** So many MEN of kind 0, v 0, NERVE 0: they are silent. */
    private static CellarPlot men(int n) {
        CellarPlot x = new CellarPlot();
        for (int i = 0; i < n; i++) {
            x.man(0, 0, 0);
        }
        return x;
    }

    public static void main(String[] args) {
        nothingThereYet();
        man();
        of();
        steadyAndChange();
        fear();
        row();
        feed();
        charter();
        told();
        pass();
        passAtTheLastDays();
        on();
        best();
        hear();
        can();
        odds();
        mean();
        plan();
        ends();
        book();
        judge();
        undo();
        act();
        trace();
        taken();
        count();
        tape();
        item();
        itemsLowestBits();
        read();
        shift();
        shiftPlaces();
        Due.end();
    }

    /** "No MEN, no CHARTER." */
    private static void nothingThereYet() {
        CellarPlot x = new CellarPlot();
        due("P1 no MEN: of", x.of(0, 0), NONE_BELOW);
        due("P1 no MEN: steady", x.steady(0, 0), NONE);
        due("P1 no MEN: change", x.change(0, true), NONE);
        due("P1 no MEN: row", x.row(0, 0, 0), NONE);
        due("P1 no MEN: can", x.can(0, 0), NONE);
        due("P1 no MEN: odds", x.odds(0, 0), NO);
        due("P1 no MEN: mean", x.mean(0), NO);
        due("P1 no MEN: plan of one UP", x.plan(1, 0), NONE);
        due("P1 no MEN: plan of one not UP", x.plan(2, 0), NONE);
        due("P1 no MEN: book", x.book(0, 0), NONE);
        due("P1 no MEN: taken", x.taken(0, 0), NOTHING);
        due("P1 no MEN: act", x.act(0, 0, 5), 0);
        due("P1 no rows: looked", x.looked(), NEVER);
        due("P1 no rows: ends FEAR", x.ends(0), 0);
        due("P1 no rows: ends TRUTHS", x.ends(1), 0);
        due("P1 no MEN: judge", x.judge(0, 0), NEVER);
        due("P1 no TRACE", x.trace(0), NONE);
        due("P1 no THE IMAGE", x.undo(), STATE);
        due("P1 no TEXT: the end of it is the FAULT", x.charter(), -10);
        due("P1 no CHARTER: CALM", x.told(1), 10);
        due("P1 no TAPE: item", x.item(0, 0, 0), NOTHING);
        due("P1 no TAPE: read", x.read(0, 0), NO);
        due("P1 no TAPE: shift", x.shift(0, 0, 0, 0, 0), NOTHING);
        for (int what = 0; what <= 6; what++) {
            due("P1 count " + what, x.count(what), 0);
        }
        for (int what = 0; what <= 9; what++) {
            due("P1 told " + what, x.told(what), what == 1 ? 10 : 0);
        }
        due("P1 no MEN, an image", x.image(), 0);
        due("P1 no MEN, back to it", x.undo(), 0);
        due("P1 first MAN", x.man(0, 0, 0), 0);
    }

    private static void man() {
        CellarPlot x = new CellarPlot();
        refused("P2 kind", 0, 6, NONE, n -> x.man(n, 0, 0));
        refused("P2 v", 0, 9, BAD, n -> x.man(0, n, 0));
        refused("P2 NERVE", 0, 20, BAD, n -> x.man(0, 0, n));
        due("P2 NONE ahead of BAD by v", x.man(7, 10, 0), NONE);
        due("P2 NONE ahead of BAD by NERVE", x.man(-1, 0, 21), NONE);
        due("P2 kind 0, v 0, NERVE 0", x.man(0, 0, 0), 0);
        due("P2 kind 6, v 9, NERVE 20", x.man(6, 9, 20), 1);
        due("P2 kind 6 stands", x.of(1, 0), 6);
        due("P2 v 9 stands", x.of(1, 1), 9);
        due("P2 NERVE 20 stands", x.of(1, 2), 20);
        for (int n = 2; n <= 5; n++) {
            due("P2 a MAN's number", x.man(n, n, n), n);
        }
        due("P2 six are FULL", x.man(0, 0, 0), FULL);
        refused("P2 NONE ahead of FULL", 0, 6, NONE, n -> x.man(n, 0, 0));
        refused("P2 BAD v ahead of FULL", 0, 9, BAD, n -> x.man(0, n, 0));
        refused("P2 BAD NERVE ahead of FULL", 0, 20, BAD, n -> x.man(0, 0, n));
        for (int n = 0; n <= 5; n++) {
            due("P2 not UP at first", x.of(n, 3), 0);
            due("P2 SPELL 0 at first", x.of(n, 4), 0);
        }
    }

    private static void of() {
        for (int men = 0; men <= 6; men++) {
            CellarPlot x = men(men);
            refused("P3 man of " + men, 0, men - 1, NONE_BELOW, n -> x.of(n, 0));
            due("P3 the last man of " + men, x.of(men - 1, 0), men > 0 ? 0 : NONE_BELOW);
        }
        CellarPlot x = men(1);
        refused("P3 what", 0, 6, NONE_BELOW, n -> x.of(0, n));
        due("P3 the last what", x.of(0, 6), 0x1fffff);
        due("P3 neither", x.of(1, 7), NONE_BELOW);
        Due.charter(x, "hush 99 p=0");
        due("P3 NOISE below 0 is no refusal", x.of(0, 5), -99);
    }

    private static void steadyAndChange() {
        CellarPlot x = men(2);
        refused("P4 man", 0, 1, NONE, n -> x.steady(n, 0));
        refused("P4 NERVE", 0, 20, BAD, n -> x.steady(0, n));
        refused("P4 NONE ahead of BAD", 0, 1, NONE, n -> x.steady(n, 21));
        due("P4 20", x.steady(1, 20), 0);
        due("P4 0", x.steady(1, 0), 20);
        due("P4 the other one's", x.steady(0, 0), 0);
        refused("P5 man", 0, 1, NONE, n -> x.change(n, true));
        refused("P5 man, not UP", 0, 1, NONE, n -> x.change(n, false));
        due("P5 the last man", x.change(1, true), 0);
        due("P5 the first man", x.change(0, false), 0);
        due("P5 just the last is UP", x.told(6), 2);
    }

    private static void fear() {
        CellarPlot x = new CellarPlot();
        refused("P6 FEAR", 0, 9999, BAD, x::fear);
        due("P6 9999", x.fear(9999), 0);
        due("P6 0", x.fear(0), 9999);
        due("P6 was 0", x.fear(1), 0);
    }

    private static void row() {
        CellarPlot x = men(1);
        for (int kind = 1; kind <= 5; kind++) {
            CellarPlot y = new CellarPlot();
            y.man(kind, 0, 0);
            due("P7 STATE: KIND " + kind, y.row(0, 0, 0), STATE);
        }
        due("P7 STATE: KIND 0", x.row(0, 3, 9), STATE);
        x.man(6, 0, 0);
        refused("P7 man", 0, 1, NONE, n -> x.row(n, 0, 0));
        refused("P7 part", 0, 3, NONE, n -> x.row(1, n, 0));
        refused("P7 n", 0, 9, BAD, n -> x.row(1, 0, n));
        refused("P7 part ahead of BAD", 0, 3, NONE, n -> x.row(1, n, 10));
        refused("P7 man ahead of BAD", 0, 1, NONE, n -> x.row(n, 0, 10));
        refused("P7 part ahead of STATE", 0, 3, NONE, n -> x.row(0, n, 0));
        refused("P7 BAD ahead of STATE", 0, 9, BAD, n -> x.row(0, 0, n));
        for (int part = 0; part <= 3; part++) {
            due("P7 0 at first", x.row(1, part, 9), 0);
            due("P7 9 stands", x.row(1, part, 0), 9);
            due("P7 0 stands", x.row(1, part, part), 0);
        }
        for (int part = 0; part <= 3; part++) {
            due("P7 each part its own", x.row(1, part, 0), part);
        }
    }

    private static void feed() {
        CellarPlot x = new CellarPlot();
        refused("P8 sign", 0, 127, BAD, x::feed);
        due("P8 sign 127", x.feed(127), 1);
        due("P8 sign 0", x.feed(0), 2);
        for (int n = 3; n <= 99; n++) {
            x.feed(n);
        }
        due("P8 the 100th", x.feed('l'), 100);
        for (int again = 0; again < 3; again++) {
            due("P8 FULL", x.feed('l'), FULL);
        }
        refused("P8 BAD ahead of FULL", 0, 127, BAD, x::feed);
        due("P8 has 100", x.count(5), 100);
        due("P9 its FAULT", x.charter(), -10);
        due("P9 it is empty then", x.count(5), 0);
        due("P8 the first again", x.feed('l'), 1);
    }

    /** "FULL: there are 6 (THE TEXT stays); -10 less the FAULT (the one that held holds)." */
    private static void charter() {
        CellarPlot x = new CellarPlot();
        for (int n = 0; n <= 5; n++) {
            due("P9 a FAULT ahead of the " + n + "th", Due.charter(x, "calm " + n + ";"), -17);
            due("P9 the one that held holds", x.told(1), n == 0 ? 10 : 20 + n - 1);
            due("P9 it is no CHARTER", x.count(1), n);
            due("P9 the " + n + "th", Due.charter(x, "calm " + (20 + n)), n);
            due("P9 holds", x.told(1), 20 + n);
            due("P9 it is counted", x.count(1), n + 1);
            due("P9 THE TEXT is empty then", x.count(5), 0);
        }
        due("P9 FULL though THE TEXT is empty", x.charter(), FULL);
        due("P9 FULL", Due.charter(x, "calm 9"), FULL);
        due("P9 THE TEXT stays", x.count(5), 6);
        due("P8 and goes on", x.feed('x'), 7);
        due("P9 FULL ahead of the FAULT", x.charter(), FULL);
        due("P9 THE TEXT stays again", x.count(5), 7);
        due("P9 six", x.count(1), 6);
        due("P9 the sixth holds", x.told(1), 25);
    }

    private static void told() {
        CellarPlot x = men(1);
        refused("P10 what", 0, 9, NONE, x::told);
        due("P10 the first what", x.told(0), 0);
        due("P10 the last what", x.told(9), 1);
    }

    private static void pass() {
        CellarPlot x = men(1);
        refused("P11 n", 0, 60, BAD, x::pass);
        due("P11 no DAY has gone", x.told(0), 0);
        due("P11 0", x.pass(0), 0);
        due("P11 0 changes nothing", x.told(4), 0);
        due("P11 1", x.pass(1), 1);
        due("P11 60", x.pass(60), 61);
        due("P11 60 have gone", x.told(4), 61);
    }

    /** "STATE: it would be above 9999." */
    private static void passAtTheLastDays() {
        CellarPlot x = men(1);
        x.fear(9999);
        for (int n = 0; n < 165; n++) {
            x.pass(60);
        }
        x.pass(39);
        due("P11 DAY 9939", x.told(0), 9939);
        x.image();
        due("P11 just to 9999", x.pass(60), 9999);
        due("P11 1 beyond 9999", x.pass(1), STATE);
        due("P11 60 beyond 9999", x.pass(60), STATE);
        refused("P11 BAD ahead of STATE", 0, 60, BAD, x::pass);
        due("P11 0 at 9999", x.pass(0), 9999);
        due("TRUTHS reach 9999", x.told(3), 9999);
        due("SILENCES reach 9999", x.told(4), 9999);
        due("SPELL reaches 9999", x.of(0, 4), 9999);
        x.undo();
        due("P11 to 9940", x.pass(1), 9940);
        due("P11 60 would be 10000", x.pass(60), STATE);
        due("P11 none of them goes", x.told(0), 9940);
        due("P11 59", x.pass(59), 9999);
    }

    private static void on() {
        CellarPlot x = men(1);
        refused("P12 n", 0, 60, BAD, n -> x.on(n, 0));
        refused("P12 what", 0, 3, NONE, n -> x.on(0, n));
        refused("P12 what ahead of n", 0, 3, NONE, n -> x.on(61, n));
        due("P12 FEAR behind 0", x.on(0, 0), 0);
        due("P12 SILENCES behind 0", x.on(0, 2), 0);
        due("P12 SILENCES behind 60", x.on(60, 2), 60);
        due("P12 TRUTHS behind 60", x.on(60, 1), 59);
        due("P12 the last what", x.on(60, 3), 0);
    }

    private static void best() {
        CellarPlot x = men(1);
        for (int what = 0; what <= 2; what++) {
            int asked = what;
            refused("P13 n", 1, 12, BAD, n -> x.best(n, asked));
        }
        refused("P13 what", 0, 2, NONE, n -> x.best(1, n));
        refused("P13 what ahead of n", 0, 2, NONE, n -> x.best(0, n));
        refused("P13 what ahead of n", 0, 2, NONE, n -> x.best(13, n));
        due("P13 CHANGE of 1", x.best(1, 0), 0);
        due("P13 TRUTHS of 1", x.best(1, 1), 0);
        due("P13 FRIGHT of 1", x.best(1, 2), NEVER);
        due("P13 CHANGE of 12", x.best(12, 0), 0);
        due("P13 TRUTHS of 12", x.best(12, 1), 11);
        due("P13 FRIGHT of 12", x.best(12, 2), 0);
    }

    private static void hear() {
        CellarPlot x = men(1);
        refused("P14 n", -1, 12, BAD, n -> x.hear(n, 0));
        refused("P14 sound", 0, 999, BAD, n -> x.hear(0, n));
        due("P14 none yet: none then", x.hear(-1, 0), 0);
        due("P14 n 0, sound 0", x.hear(0, 0), 1);
        due("P14 so it is", x.can(0, 0), 10);
        due("P14 n 12, sound 999", x.hear(12, 999), 2);
        due("P14 so it isn't", x.can(0, 0), 0);
        due("P14 n 12, sound 0", x.hear(12, 0), 3);
        due("P14 n 0, sound 999", x.hear(0, 999), 4);
        due("P14 the fifth", x.hear(1, 0), 5);
        due("P14 FULL", x.hear(1, 0), FULL);
        due("P14 FULL again", x.hear(12, 999), FULL);
        refused("P14 BAD n ahead of FULL", -1, 12, BAD, n -> x.hear(n, 0));
        refused("P14 BAD sound ahead of FULL", 0, 999, BAD, n -> x.hear(0, n));
        due("P14 five", x.count(2), 5);
        for (int sound : new int[] {LEAST, -1, 0, 1000, MOST}) {
            x.hear(0, 7);
            due("P14 none then, whatever the other is", x.hear(-1, sound), 0);
            due("P14 none", x.count(2), 0);
        }
        due("P14 what was heard is so no more", x.can(0, 0), 10);
        due("P14 the first again", x.hear(0, 999), 1);
    }

    private static void can() {
        CellarPlot x = men(2);
        refused("P15 man", 0, 1, NONE, n -> x.can(n, 0));
        refused("P15 what", 0, 1, NONE, n -> x.can(0, n));
        refused("P15 neither", 0, 1, NONE, n -> x.can(2, n));
        due("P15 all of 0 .. 9", x.can(1, 0), 10);
        due("P15 the least of them", x.can(1, 1), 0);
        Due.charter(x, "loud 1 v=9&p=0;loud 2 v=0&p=1");
        x.hear(0, 3);
        due("P15 just 9", x.can(0, 0), 1);
        due("P15 9 is the least", x.can(0, 1), 9);
        x.hear(-1, 0);
        x.hear(0, 2);
        due("P15 all but 9", x.can(0, 0), 9);
        due("P15 just 0", x.can(1, 0), 1);
        due("P15 0 is the least", x.can(1, 1), 0);
        x.hear(12, 1);
        due("P15 none", x.can(0, 0), 0);
        due("P15 no least", x.can(0, 1), NEVER);
    }

    private static void odds() {
        CellarPlot x = men(1);
        refused("P16 n", 0, 20, NO, n -> x.odds(n, 0));
        refused("P16 part", 0, 1, NO, n -> x.odds(0, n));
        due("P16 0 above", x.odds(0, 0), 0);
        due("P16 0 below the line", x.odds(0, 1), 1);
        due("P16 20 above", x.odds(20, 0), 1);
        due("P16 20 below the line", x.odds(20, 1), 1);
        CellarPlot none = new CellarPlot();
        due("P16 no MEN", none.odds(20, 0), NO);
        due("P16 no MEN, below the line", none.odds(0, 1), NO);
    }

    private static void mean() {
        CellarPlot x = men(6);
        refused("P17 part", 0, 1, NO, x::mean);
        due("P17 0 above", x.mean(0), 0);
        due("P17 0 below the line is 1", x.mean(1), 1);
        for (int n = 0; n <= 5; n++) {
            x.steady(n, 20);
        }
        due("P17 20 above", x.mean(0), 20);
        due("P17 1 below the line", x.mean(1), 1);
        x.steady(5, 19);
        due("P17 119 above", x.mean(0), 119);
        due("P17 6 below the line", x.mean(1), 6);
        for (int n = 0; n <= 4; n++) {
            x.change(n, true);
        }
        due("P17 just one not UP", x.mean(0), 19);
        due("P17 just one not UP, below the line", x.mean(1), 1);
        x.change(5, true);
        due("P17 all UP", x.mean(0), NO);
        due("P17 all UP, below the line", x.mean(1), NO);
    }

    private static void plan() {
        CellarPlot x = men(2);
        refused("P18 what", -1, 3, NONE, n -> x.plan(n, 0));
        refused("P18 man by 1", 0, 1, NONE, n -> x.plan(1, n));
        refused("P18 man by 2", 0, 1, NONE, n -> x.plan(2, n));
        due("P18 none came", x.count(3), 0);
        due("P18 empty yet: empty then", x.plan(-1, 0), 0);
        due("P18 1, the last man", x.plan(1, 1), 1);
        due("P18 2, the last man", x.plan(2, 1), 2);
        due("P18 1, the first man", x.plan(1, 0), 3);
        due("P18 2, the first man", x.plan(2, 0), 4);
        due("P18 by 0 the man may be none", x.plan(0, LEAST), 5);
        due("P18 by 0 the man may be none", x.plan(0, MOST), 6);
        due("P18 by 3 the man may be none", x.plan(3, -1), 7);
        due("P18 by 3 the man may be none", x.plan(3, 2), 8);
        due("P18 the ninth", x.plan(0, 0), 9);
        due("P18 the tenth", x.plan(0, 0), 10);
        for (int what = 0; what <= 3; what++) {
            due("P18 FULL", x.plan(what, 0), FULL);
        }
        refused("P18 what ahead of FULL", -1, 3, NONE, n -> x.plan(n, 0));
        refused("P18 man ahead of FULL", 0, 1, NONE, n -> x.plan(2, n));
        due("P18 ten", x.count(3), 10);
        for (int man : new int[] {LEAST, -1, 0, 2, MOST}) {
            x.plan(0, 0);
            due("P18 empty then, whatever the other is", x.plan(-1, man), 0);
            due("P18 none", x.count(3), 0);
        }
        due("P18 the first again", x.plan(3, 0), 1);
    }

    private static void ends() {
        CellarPlot x = men(1);
        x.fear(9999);
        refused("P19 what", 0, 1, NONE, x::ends);
        due("P19 no rows: FEAR is as now", x.ends(0), 9999);
        due("P19 no rows: TRUTHS are as now", x.ends(1), 0);
        for (int n = 0; n < 10; n++) {
            x.plan(0, 0);
        }
        due("P19 ten DAYS: TRUTHS", x.ends(1), 10);
        x.plan(-1, 0);
        x.plan(3, 77);
        due("P19 FEAR is 0, whatever n is", x.ends(0), 0);
    }

    private static void book() {
        CellarPlot x = men(2);
        refused("P20 man", -1, 1, NONE, n -> x.book(n, 0));
        refused("P20 NERVE", 0, 20, BAD, n -> x.book(0, n));
        refused("P20 NONE ahead of BAD", -1, 1, NONE, n -> x.book(n, 21));
        due("P20 none came", x.count(4), 0);
        due("P20 empty yet: empty then", x.book(-1, 0), 0);
        due("P20 the first man, 0", x.book(0, 0), 1);
        due("P21 as it is", x.looked(), NEVER);
        due("P20 the last man, 20", x.book(1, 20), 2);
        due("P21 otherwise", x.looked(), 1);
        for (int n = 3; n <= 8; n++) {
            due("P20 comes", x.book(0, 0), n);
        }
        due("P20 FULL", x.book(0, 0), FULL);
        refused("P20 NONE ahead of FULL", -1, 1, NONE, n -> x.book(n, 0));
        refused("P20 BAD ahead of FULL", 0, 20, BAD, n -> x.book(0, n));
        due("P20 eight", x.count(4), 8);
        x.steady(1, 20);
        due("P21 all eight are as told", x.looked(), NEVER);
        x.steady(0, 1);
        due("P21 the first of several", x.looked(), 0);
        x.book(-1, 0);
        for (int n = 1; n <= 7; n++) {
            x.book(0, 1);
        }
        due("P20 the eighth", x.book(0, 2), 8);
        due("P21 just the eighth", x.looked(), 7);
        for (int nerve : new int[] {LEAST, -1, 0, 21, MOST}) {
            x.book(0, 7);
            due("P20 empty then, whatever the other is", x.book(-1, nerve), 0);
            due("P20 none", x.count(4), 0);
        }
        due("P21 no rows", x.looked(), NEVER);
    }

    private static void judge() {
        CellarPlot x = men(2);
        refused("P22 tape", 0, 5, NONE, n -> x.judge(n, 0));
        for (int tape = 0; tape <= 5; tape++) {
            due("P22 holds nothing", x.judge(tape, 0), 100);
            x.tape(tape, 2, 60);
            due("P22 all 0", x.judge(tape, 58), NEVER);
        }
        due("P22 one place too far", x.judge(5, 59), 101);
        due("P22 at the end", x.judge(5, 60), 100);
        refused("P22 place", 0, 60, 100, n -> x.judge(5, n));
        x.tape(0, 2, 0);
        due("P22 a row of none", x.judge(0, 0), 100);
        x.tape(0, 1, 0);
        refused("P22 CAST whatever the place", 0, 0, CAST, n -> x.judge(0, n));
        CellarPlot none = new CellarPlot();
        refused("P22 tape without MEN", 0, 5, NONE, n -> none.judge(n, 0));
        refused("P22 no MEN, no such place", 0, 0, NEVER, n -> none.judge(0, n));
        none.tape(0, 2, 3);
        refused("P22 no MEN, beyond the row", 0, 2, NEVER, n -> none.judge(0, n));
        judgeTheLastSpell();
    }

    private static void judgeTheLastSpell() {
        CellarPlot x = men(6);
        x.pass(60);
        x.tape(1, 2, 60);
        for (int i = 54; i < 60; i++) {
            x.item(1, i, 60);
        }
        due("P22 six, up to the end", x.judge(1, 54), NEVER);
        due("P22 five looked at", x.judge(1, 55), 105);
        x.item(1, 59, 59);
        due("P22 the sixth is otherwise", x.judge(1, 54), 5);
        x.item(1, 59, (1L << 32) + 60);
        due("P22 by its lowest 32 bits", x.judge(1, 54), NEVER);
    }

    private static void undo() {
        CellarPlot x = new CellarPlot();
        due("P24 no image", x.undo(), STATE);
        x.man(0, 0, 0);
        due("P24 no image still", x.undo(), STATE);
        due("P24 the MAN stays", x.count(0), 1);
        for (int men = 1; men <= 6; men++) {
            due("P23 how many MEN", x.image(), men);
            x.man(0, 0, 0);
            due("P24 how many MEN", x.undo(), men);
            due("P24 how many MEN, twice", x.undo(), men);
            due("P28 so many", x.count(0), men);
            due("P3 no other", x.of(men, 0), NONE_BELOW);
            due("P2 the next", x.man(0, 0, 0), men < 6 ? men : FULL);
        }
    }

    private static void act() {
        CellarPlot x = men(2);
        refused("P25 man", 0, 1, 0, n -> x.act(n, 0, 5));
        refused("P25 act", 0, 2, 0, n -> x.act(1, n, 5));
        due("P25 no TRACE then", x.trace(0), NONE);
        due("P28 no bodies", x.count(6), 0);
        due("P25 the last man, the first act", x.act(1, 0, 5), 6);
        due("P26 rolls", x.trace(0), 10);
        due("P25 the last act", x.act(1, 2, 5), 12);
        due("P26 tells", x.trace(0), 12);
        due("P28 three bodies", x.count(6), 3);
        due("P25 refused behind it", x.act(2, 2, 5), 0);
        due("P26 no TRACE then", x.trace(0), NONE);
        due("P28 none ran", x.count(6), 0);
    }

    private static void trace() {
        CellarPlot x = new CellarPlot();
        refused("P26 nothing ran", 0, -1, NONE, x::trace);
        x.man(6, 0, 0);
        x.act(0, 2, 0);
        due("P28 twelve ran", x.count(6), 12);
        due("P26 the first", x.trace(0), 40);
        due("P26 the last", x.trace(11), 10);
        refused("P26 i", 0, 11, NONE, x::trace);
        due("P26 within the twenty kept, not there", x.trace(19), NONE);
        due("P26 beyond the twenty kept", x.trace(20), NONE);
        x.act(0, 0, 0);
        due("P26 the latest alone", x.trace(0), 71);
        refused("P26 i of two", 0, 1, NONE, x::trace);
    }

    private static void taken() {
        CellarPlot x = men(1);
        x.man(6, 0, 0);
        refused("P27 k", 0, 6, BAD, n -> x.taken(0, n));
        refused("P27 man", 0, 1, NOTHING, n -> x.taken(n, 0));
        refused("P27 BAD ahead of NOTHING", 0, 6, BAD, n -> x.taken(2, n));
        due("P27 the first k", x.taken(1, 0), 6);
        due("P27 the last k", x.taken(1, 6), 6);
        due("P27 CAST", x.taken(0, 6), CAST);
        due("P27 a MAN is a MAN", x.taken(0, 0), 0);
    }

    private static void count() {
        CellarPlot x = new CellarPlot();
        refused("P28 what", 0, 6, BAD, x::count);
    }

    private static void tape() {
        CellarPlot x = new CellarPlot();
        refused("P29 tape", 0, 5, NONE, n -> x.tape(n, 0, 0));
        refused("P29 tape that holds nothing", 0, 5, NONE, n -> x.tape(n, -1, 0));
        refused("P29 sort", -1, 4, BAD, n -> x.tape(0, n, 0));
        for (int n : new int[] {61, 62, MOST}) {
            due("P29 n above 60", x.tape(0, 4, n), BAD);
            due("P29 tape ahead of n", x.tape(6, 4, n), NONE);
            due("P29 n does not matter by sort -1", x.tape(0, -1, n), 1);
        }
        for (int n : new int[] {-1, -2, LEAST}) {
            due("P29 SIZE", x.tape(0, 4, n), SIZE);
            due("P29 tape ahead of SIZE", x.tape(-1, 4, n), NONE);
            due("P29 BAD sort ahead of SIZE", x.tape(0, 5, n), BAD);
            due("P29 BAD sort ahead of SIZE", x.tape(0, -2, n), BAD);
            due("P29 n does not matter by sort -1", x.tape(0, -1, n), 1);
        }
        for (int tape = 0; tape <= 5; tape++) {
            for (int sort = 0; sort <= 4; sort++) {
                due("P29 a row of none", x.tape(tape, sort, 0), 1);
                due("P30 it has no place", x.item(tape, 0, 1), PLACE);
                due("P29 a row of 60", x.tape(tape, sort, 60), 1);
                due("P30 its last", x.item(tape, 59, 1), 1);
                due("P31 its last", x.read(tape, 59), 1);
                due("P29 a new one", x.tape(tape, sort, 60), 1);
                due("P31 all 0", x.read(tape, 59), 0);
            }
            due("P29 holds nothing", x.tape(tape, -1, 0), 1);
            due("P30 nothing is there", x.item(tape, 0, 1), NOTHING);
        }
    }

    private static void item() {
        CellarPlot x = new CellarPlot();
        refused("P30 tape", 0, 5, NONE, n -> x.item(n, 0, 0));
        refused("P30 NOTHING whatever the place", 0, 0, NOTHING, n -> x.item(0, n, 0));
        x.tape(0, 3, 2);
        refused("P30 place", 0, 1, PLACE, n -> x.item(0, n, 0));
        refused("P30 tape ahead of place", 0, 5, NONE, n -> x.item(n, 2, 0));
        due("P30 the first place", x.item(0, 0, 8), 1);
        due("P30 the last place", x.item(0, 1, 9), 1);
        due("P31 the first", x.read(0, 0), 8);
        due("P31 the last", x.read(0, 1), 9);
    }

    private static void becomes(int sort, long v, long want) {
        CellarPlot x = new CellarPlot();
        x.tape(0, sort, 1);
        due("P30 sort " + sort + " of " + v, x.item(0, 0, v), 1);
        due("P31 sort " + sort + " of " + v, x.read(0, 0), want);
    }

    /** "Its lowest bits, as many as an item has; booleans: whether v is not 0." */
    private static void itemsLowestBits() {
        int[] bits = {8, 16, 32, 64};
        for (int sort = 0; sort <= 3; sort++) {
            long most = Long.MAX_VALUE >> (64 - bits[sort]);
            becomes(sort, most, most);
            becomes(sort, most + 1, -most - 1);
            becomes(sort, -most - 1, -most - 1);
            becomes(sort, -most - 2, most);
            becomes(sort, -1, -1);
            if (sort < 3) {
                becomes(sort, 1L << bits[sort], 0);
                becomes(sort, (1L << bits[sort]) - 1, -1);
                becomes(sort, Long.MAX_VALUE, -1);
                becomes(sort, Long.MIN_VALUE, 0);
            }
        }
        for (long v : new long[] {1, -1, 2, 256, 1L << 16, 1L << 32, Long.MAX_VALUE, Long.MIN_VALUE}) {
            becomes(4, v, 1);
        }
        becomes(4, 0, 0);
    }

    private static void read() {
        CellarPlot x = new CellarPlot();
        refused("P31 tape", 0, 5, NO, n -> x.read(n, 0));
        refused("P31 nothing there", 0, -1, NO, n -> x.read(0, n));
        x.tape(0, 0, 2);
        refused("P31 place", 0, 1, NO, n -> x.read(0, n));
        due("P31 the first", x.read(0, 0), 0);
        due("P31 the last", x.read(0, 1), 0);
        x.tape(0, 4, 0);
        refused("P31 a row of none", 0, -1, NO, n -> x.read(0, n));
    }

    private static void shift() {
        CellarPlot x = new CellarPlot();
        x.tape(5, 1, 1);
        refused("P32 tape", 0, 5, NONE, n -> x.shift(n, 0, 5, 0, 1));
        refused("P32 the other", 0, 5, NONE, n -> x.shift(5, 0, n, 0, 1));
        refused("P32 tape ahead of NOTHING", 0, 5, NONE, n -> x.shift(n, 0, 0, 0, 1));
        refused("P32 the other ahead of NOTHING", 0, 5, NONE, n -> x.shift(0, 0, n, 0, 1));
        due("P32 nothing there", x.shift(0, 0, 5, 0, 1), NOTHING);
        due("P32 nothing at the other", x.shift(5, 0, 0, 0, 1), NOTHING);
        due("P32 nothing at either", x.shift(0, 0, 1, 0, 0), NOTHING);
        due("P32 NOTHING ahead of PLACE", x.shift(0, -1, 5, 9, -1), NOTHING);
        for (int one = 0; one <= 4; one++) {
            for (int other = 0; other <= 4; other++) {
                x.tape(1, one, 1);
                x.tape(2, other, 1);
                due("P32 " + one + " to " + other, x.shift(1, 0, 2, 0, 1), one == other ? 1 : CAST);
                due("P32 CAST ahead of PLACE", x.shift(1, 0, 2, 0, 2), one == other ? PLACE : CAST);
                due("P32 CAST though none come", x.shift(1, 1, 2, 1, 0), one == other ? 0 : CAST);
            }
        }
    }

    /** "PLACE: n, i or j is below 0, or beyond either's end." */
    private static void shiftPlaces() {
        CellarPlot x = new CellarPlot();
        x.tape(0, 3, 5);
        x.tape(1, 3, 7);
        for (int i = 0; i < 5; i++) {
            x.item(0, i, i + 1);
        }
        refused("P32 n", 0, 5, PLACE, n -> x.shift(0, 0, 1, 0, n));
        refused("P32 n of the other's end", 0, 5, PLACE, n -> x.shift(1, 0, 0, 0, n));
        refused("P32 i", 0, 4, PLACE, n -> x.shift(0, n, 1, 0, 1));
        refused("P32 j", 0, 6, PLACE, n -> x.shift(0, 0, 1, n, 1));
        refused("P32 i by none", 0, 5, PLACE, n -> x.shift(0, n, 1, 0, 0));
        refused("P32 j by none", 0, 7, PLACE, n -> x.shift(0, 0, 1, n, 0));
        refused("P32 i, and as far n", 0, 5, PLACE, n -> x.shift(0, n, 1, 0, n));
        due("P32 nothing came", x.read(1, 0) + x.read(1, 6), 0);
        due("P32 none from the end to the end", x.shift(0, 5, 1, 7, 0), 0);
        due("P32 the last to the last", x.shift(0, 4, 1, 6, 1), 1);
        due("P32 the last came", x.read(1, 6), 5);
        due("P32 all to the first", x.shift(0, 0, 1, 0, 5), 5);
        due("P32 all came", x.read(1, 4), 5);
        due("P32 none behind them", x.read(1, 5), 0);
        due("P32 to itself, the same place", x.shift(0, 0, 0, 0, 5), 5);
        due("P32 as it was", x.read(0, 4), 5);
    }
}
