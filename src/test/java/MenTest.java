/** Promises 1 to 9: men, charters. */
public final class MenTest {
    private static final int NONE = -1, BAD = -2, STATE = -3, FULL = -4, NONE_BELOW = -10001;

    private static void due(String call, long got, long want) {
        Due.due(call, got, want);
    }

    public static void main(String[] args) {
        newObject();
        man();
        of();
        noises();
        nerves();
        steadyAndChange();
        fear();
        row();
        feed();
        faults();
        charters();
        expressions();
        letters();
        Due.end();
    }

    private static void newObject() {
        CellarPlot x = new CellarPlot();
        int[] told = {0, 10, 0, 0, 0, 0, 0, 0, 0, 0};
        for (int what = 0; what < told.length; what++) {
            due("P1 told " + what, x.told(what), told[what]);
        }
        for (int what = 0; what < 7; what++) {
            due("P1 count " + what, x.count(what), 0);
        }
        due("P1 undo", x.undo(), STATE);
        due("P1 of", x.of(0, 0), NONE_BELOW);
        due("P1 trace", x.trace(0), NONE);
        due("NONE", CellarPlot.NONE, -1);
        due("BAD", CellarPlot.BAD, -2);
        due("STATE", CellarPlot.STATE, -3);
        due("FULL", CellarPlot.FULL, -4);
        due("NO", CellarPlot.NO, Long.MIN_VALUE);
    }

    private static void man() {
        CellarPlot x = new CellarPlot();
        due("P2 kind", x.man(7, 10, 21), NONE);
        due("P2 kind below", x.man(-1, 0, 0), NONE);
        due("P2 v", x.man(0, 10, 0), BAD);
        due("P2 v below", x.man(0, -1, 0), BAD);
        due("P2 nerve", x.man(0, 0, 21), BAD);
        due("P2 nerve below", x.man(0, 0, -1), BAD);
        due("P2 none came", x.count(0), 0);
        due("P2 least", x.man(0, 0, 0), 0);
        due("P2 most", x.man(6, 9, 20), 1);
        for (int n = 2; n < 6; n++) {
            due("P2 man", x.man(n, n, n), n);
            due("P2 is below", x.of(n, 3), 0);
        }
        due("P2 full", x.man(0, 0, 0), FULL);
        due("P2 kind ahead of full", x.man(7, 0, 0), NONE);
        due("P2 v ahead of full", x.man(0, 10, 0), BAD);
        due("P2 nerve ahead of full", x.man(0, 0, 21), BAD);
        due("P2 six", x.count(0), 6);
    }

    private static void of() {
        CellarPlot x = new CellarPlot();
        x.man(4, 8, 13);
        x.pass(3);
        int[] want = {4, 8, 13, 0, 3, 8 - 3 - 3, 0x1fffff};
        for (int what = 0; what < want.length; what++) {
            due("P3 of 0 " + what, x.of(0, what), want[what]);
        }
        due("P3 what", x.of(0, 7), NONE_BELOW);
        due("P3 what below", x.of(0, -1), NONE_BELOW);
        due("P3 man", x.of(1, 0), NONE_BELOW);
        due("P3 man below", x.of(-1, 0), NONE_BELOW);
        x.change(0, true);
        due("P3 up", x.of(0, 3), 1);
        due("P3 noise though up", x.of(0, 5), 2);
    }

    private static void noises() {
        CellarPlot x = new CellarPlot();
        int[] nerve = {20, 3, 0, 0, 4, 0};
        int[] kind = {0, 1, 2, 3, 4, 5};
        for (int n = 0; n < 6; n++) {
            x.man(kind[n], 5, nerve[n]);
        }
        Due.charter(x, "loud 7 k<7");
        int[] first = {2, 12, 6, 0, 11, 6};
        for (int n = 0; n < 6; n++) {
            due("P3 noise on day 0 of " + n, x.of(n, 5), first[n]);
        }
        x.pass(1);
        due("P3 SLEEPER on day 1", x.of(3, 5), 7);
        due("P3 CELLARMAN on day 1", x.of(4, 5), 10);
        x.pass(6);
        due("P3 SLEEPER on day 7", x.of(3, 5), 0);
        x.pass(3);
        due("P3 CELLARMAN, SPELL 10", x.of(4, 4), 10);
        due("P3 CELLARMAN, 9 less at most", x.of(4, 5), 2);
        Due.charter(x, "hush 7 k<7");
        due("P3 STOKER cut toward 0", x.of(2, 5), 0);
        due("P3 MAN below 0", x.of(0, 5), -12);
        due("P3 DANCER alone", x.of(5, 5), 0);
        dancers();
        told();
    }

    private static void dancers() {
        CellarPlot x = new CellarPlot();
        x.man(5, 0, 0);
        x.man(5, 0, 8);
        due("P3 DANCER with another", x.of(0, 5), 6);
        due("P3 DANCER with another, SUM -2", x.of(1, 5), 4);
        due("P10 SOUND of both", x.told(5), 10);
        x.change(0, true);
        due("P3 DANCER that is UP, another below", x.of(0, 5), 6);
        due("P3 DANCER with another that is UP", x.of(1, 5), 2);
        due("P10 SOUND of one", x.told(5), 2);
        x.man(2, 0, 0);
        due("P3 a STOKER is none", x.of(1, 5), 2);
        CellarPlot y = new CellarPlot();
        y.man(5, 0, 20);
        y.man(5, 0, 20);
        Due.charter(y, "hush 20 p=0");
        due("P3 DANCER twice below 0", y.of(0, 5), -18);
        due("P10 as 0 if below", y.told(5), 2);
    }

    private static void told() {
        CellarPlot x = new CellarPlot();
        x.man(6, 0, 4);
        x.row(0, 0, 9);
        x.row(0, 3, 4);
        due("P3 TOLD on day 0", x.of(0, 5), 9);
        x.pass(3);
        due("P3 TOLD on day 3", x.of(0, 5), 3);
        x.pass(1);
        due("P3 TOLD on day 4", x.of(0, 5), 8);
        x.pass(3);
        due("P3 TOLD on day 7", x.of(0, 5), 4);
    }

    private static void nerves() {
        CellarPlot x = new CellarPlot();
        x.man(1, 5, 4);
        x.hear(0, 4);
        due("P3 NERVES", x.of(0, 6), 0xf0);
        x.hear(3, 4);
        due("P3 NERVES of two rows", x.of(0, 6), 0xf0);
        x.hear(1, 5);
        due("P3 NERVES, none", x.of(0, 6), 0);
        x.hear(-1, 0);
        due("P3 NERVES, nothing heard", x.of(0, 6), 0x1fffff);
        x.hear(0, 0);
        due("P3 NERVES: the most is 20", x.of(0, 6), 1 << 20);
        x.change(0, true);
        due("P3 NERVES of one UP", x.of(0, 6), 0x1fffff);
        due("P3 asked, nothing changed", x.of(0, 2), 4);
        CellarPlot y = new CellarPlot();
        y.man(4, 9, 0);
        y.pass(2);
        y.hear(2, 4);
        due("P3 NERVES: days from now", y.of(0, 6), 0xf0);
    }

    private static void steadyAndChange() {
        CellarPlot x = new CellarPlot();
        x.man(1, 5, 4);
        due("P4 was", x.steady(0, 20), 4);
        due("P4 was again", x.steady(0, 0), 20);
        due("P4 is", x.of(0, 2), 0);
        due("P4 NONE ahead of BAD", x.steady(1, 21), NONE);
        due("P4 NONE below", x.steady(-1, 0), NONE);
        due("P4 BAD", x.steady(0, 21), BAD);
        due("P4 BAD below", x.steady(0, -1), BAD);
        due("P4 refused changes nothing", x.of(0, 2), 0);
        x.pass(2);
        due("P5 was not", x.change(0, true), 0);
        due("P5 SPELL stays", x.of(0, 4), 2);
        due("P5 was", x.change(0, true), 1);
        due("P5 UP, no SOUND", x.told(5), 0);
        x.pass(1);
        due("P5 SPELL of one UP behind a DAY", x.of(0, 4), 0);
        due("P5 was, is not", x.change(0, false), 1);
        due("P5 was not, is not", x.change(0, false), 0);
        due("P5 NONE", x.change(1, true), NONE);
        due("P5 NONE below", x.change(-1, false), NONE);
        x.pass(1);
        due("P5 SPELL begins again", x.of(0, 4), 1);
    }

    private static void fear() {
        CellarPlot x = new CellarPlot();
        due("P6 was 0", x.fear(9999), 0);
        due("P6 BAD", x.fear(10000), BAD);
        due("P6 BAD below", x.fear(-1), BAD);
        due("P6 was 9999", x.fear(0), 9999);
        due("P6 is", x.told(2), 0);
    }

    private static void row() {
        CellarPlot x = new CellarPlot();
        x.man(6, 0, 0);
        x.man(3, 0, 0);
        due("P7 was 0", x.row(0, 3, 9), 0);
        due("P7 was 9", x.row(0, 3, 0), 9);
        due("P7 another part", x.row(0, 0, 1), 0);
        due("P7 man", x.row(2, 4, 10), NONE);
        due("P7 man below", x.row(-1, 0, 0), NONE);
        due("P7 part", x.row(0, 4, 10), NONE);
        due("P7 part below", x.row(0, -1, 0), NONE);
        due("P7 BAD", x.row(0, 0, 10), BAD);
        due("P7 BAD below", x.row(0, 0, -1), BAD);
        due("P7 part ahead of STATE", x.row(1, 4, 0), NONE);
        due("P7 BAD ahead of STATE", x.row(1, 0, 10), BAD);
        due("P7 STATE", x.row(1, 0, 0), STATE);
        due("P7 stays", x.row(0, 0, 1), 1);
    }

    private static void feed() {
        CellarPlot x = new CellarPlot();
        due("P8 sign 0", x.feed(0), 1);
        due("P8 sign 127", x.feed(127), 2);
        due("P8 BAD", x.feed(128), BAD);
        due("P8 BAD below", x.feed(-1), BAD);
        for (int n = 3; n <= 100; n++) {
            due("P8 feed", x.feed(65), n);
        }
        due("P8 FULL", x.feed(65), FULL);
        due("P8 BAD ahead of FULL", x.feed(128), BAD);
        due("P8 has", x.count(5), 100);
        due("P9 none begins with 0", x.charter(), -10);
        due("P9 THE TEXT is empty", x.feed(65), 1);
    }

    private static void fault(String text, int place) {
        CellarPlot x = new CellarPlot();
        Due.feed(x, text);
        due("P9 FAULT of '" + text + "'", x.charter(), -10 - place);
        due("P9 no CHARTER of '" + text + "'", x.count(1), 0);
        due("P9 empty behind '" + text + "'", x.count(5), 0);
    }

    private static void good(String text) {
        CellarPlot x = new CellarPlot();
        Due.feed(x, text);
        due("P9 '" + text + "'", x.charter(), 0);
    }

    private static void faults() {
        String[] early = {"", "l", "loud", "loud ", "loud 1", "loud 12", "loud 1 ", "loud 1 p", "loud 1 p=", "loud 1 p=1&",
            "loud 1 p=12|", "loud 1 (p=1", "loud 1 (", "loud 1 !", "hus", "calm", "calm ", "calm 1;", "hush 9 v>3;"};
        for (String text : early) {
            fault(text, text.length());
        }
        fault("x", 0);
        fault(";", 0);
        fault("Loud 1 p=1", 0);
        fault(" loud 1 p=1", 0);
        fault("lout 1 p=1", 3);
        fault("lush 1 p=1", 1);
        fault("call 1", 3);
        fault("calm1", 4);
        fault("calm  1", 5);
        fault("calm x", 5);
        fault("calm 123", 7);
        fault("calm 1 p=1", 6);
        fault("calm 1;;", 7);
        fault("loud  1 p=1", 5);
        fault("loud 123 p=1", 7);
        fault("loud 1;calm 1", 6);
        fault("loud 1p=1", 6);
        fault("loud 1  p=1", 7);
        fault("loud 1 s=1", 7);
        fault("loud 1 ()", 8);
        fault("loud 1 p!1", 8);
        fault("loud 1 p==1", 9);
        fault("loud 1 p=-1", 9);
        fault("loud 1 p=123", 11);
        fault("loud 1 p=1)", 10);
        fault("loud 1 p=1 ", 10);
        fault("loud 1 p=1!", 10);
        fault("loud 1 p=1&&", 11);
        fault("loud 1 p=1|&", 11);
        fault("loud 1 (p=1;", 11);
        fault("loud 1 p=1;x", 11);
        fault("loud 1 p=1\u0000", 10);
        fault("loud 1 (((((p=1)))))", 11);
        fault("loud 1 !!!!!p=1", 11);
        fault("loud 1 !(!(!p=1))", 11);
        fault("loud 1 (!!!p=1&(p=1))|(((((", 26);
        fault("calm 1;calm 1;calm 1;calm 1;calm 1;calm 1;calm 1;calm 1;calm 1;calm 1;calm 1", 69);
        fault("calm 1;calm 1;calm 1;calm 1;calm 1;calm 1;calm 1;calm 1;calm 1;calm 1x", 69);
        good("calm 1;calm 1;calm 1;calm 1;calm 1;calm 1;calm 1;calm 1;calm 1;calm 1");
        good("loud 1 ((((p=1))))");
        good("loud 1 !!!!p=1&!!!!p=1|((((p=1))))");
        good("hush 00 p=00");
        good("loud 99 (!p=1|k<2)&!(v>3&n=20);hush 7 a<9|d>0");
    }

    private static void charters() {
        CellarPlot x = new CellarPlot();
        x.man(0, 0, 0);
        due("P9 first", Due.charter(x, "loud 3 p=0;calm 3;calm 4"), 0);
        due("P9 the last CALM", x.told(1), 4);
        due("P9 holds", x.told(5), 3);
        due("P9 a fault", Due.charter(x, "loud 9 p=0;calm 9;"), -10 - 18);
        due("P9 the one that held holds", x.told(5), 3);
        due("P9 its CALM holds", x.told(1), 4);
        due("P9 second", Due.charter(x, "loud 7 p=0"), 1);
        due("P9 CALM without", x.told(1), 10);
        due("P9 the newest holds", x.told(5), 7);
        for (int n = 2; n < 6; n++) {
            due("P9 another", Due.charter(x, "calm " + n), n);
        }
        due("P9 fed", Due.feed(x, "calm"), 4);
        due("P9 FULL ahead of a FAULT", x.charter(), FULL);
        due("P9 THE TEXT stays", x.count(5), 4);
        due("P9 six", x.count(1), 6);
        due("P9 the sixth holds", x.told(1), 5);
        charterBehindFaults();
    }

    private static void charterBehindFaults() {
        CellarPlot x = new CellarPlot();
        x.man(0, 0, 0);
        for (int n = 0; n < 5; n++) {
            due("P9 a fault at the end", Due.charter(x, "calm 7;loud 9 p=0|p=0|p=0|p=0|p=0|p=0|p=0|p=0|p=0|p=0|p=0|p=0|"), -10 - 62);
        }
        due("P9 good behind faults", Due.charter(x, "loud 1 p=0&p=0"), 0);
        due("P9 nothing of a fault's CLAUSES", x.told(5), 1);
        due("P9 nor of its CALM", x.told(1), 10);
        Due.charter(x, "loud 1 p=0;loud 2 p<1;hush 3 !p=1;loud 4 p=9;");
        due("P9 of few CLAUSES behind a fault", Due.charter(x, "calm 3"), 1);
        due("P9 no SOUND by it", x.of(0, 5), 0);
        Due.charter(x, "calm 1;calm 1;calm 1;calm 1;calm 1;calm 1;calm 1;calm 1;loud 2 v=0;loud 3 n=0");
        due("P9 ten CLAUSES", x.of(0, 5), 5);
    }

    /** SOUND of a lone MAN 0 with NERVE 0 is the n of those that hold. */
    private static void holds(String e, boolean want) {
        CellarPlot x = new CellarPlot();
        x.man(0, 0, 0);
        Due.charter(x, "loud 5 " + e);
        due("'" + e + "' holds", x.of(0, 5), want ? 5 : 0);
        Due.charter(x, "hush 6 " + e);
        due("'" + e + "' hushes", x.of(0, 5), want ? -6 : 0);
    }

    private static void expressions() {
        holds("p=0|p=1&p=1", true);
        holds("(p=0|p=1)&p=1", false);
        holds("p=1&p=1|p=0", true);
        holds("p=1&(p=1|p=0)", false);
        holds("!p=1&p=1", false);
        holds("!(p=1&p=1)", true);
        holds("!p=0|p=0", true);
        holds("!(p=0|p=0)", false);
        holds("!!p=0", true);
        holds("!!!p=0", false);
        holds("p=0&p=0&p=1", false);
        holds("p=0&p=1&p=0", false);
        holds("p=1|p=1|p=0", true);
        holds("p=0|p=1|p=1", true);
        holds("p=1|p=0&p=0|p=1", true);
        CellarPlot x = new CellarPlot();
        x.man(0, 0, 7);
        Due.charter(x, "loud 9 p=0;hush 4 p=0;loud 20 p=1;hush 30 p=1;calm 2;loud 1 p<1");
        due("SUM of several", x.of(0, 5), 9 - 4 + 1 - 1);
    }

    private static void letter(CellarPlot x, String letter, int is) {
        for (int n = Math.max(0, is - 1); n <= is + 1; n++) {
            x.undo();
            x.image();
            Due.feed(x, "loud 50 " + letter + "<" + n + ";loud 20 " + letter + "=" + n + ";loud 9 " + letter + ">" + n);
            x.charter();
            due(letter + " is " + is + ", by " + n, x.of(1, 5), is < n ? 50 : is == n ? 20 : 9);
        }
    }

    private static CellarPlot lettered(int days) {
        CellarPlot x = new CellarPlot();
        x.man(0, 0, 0);
        x.man(0, 8, 3);
        x.pass(days);
        return x;
    }

    private static void letters() {
        letter(lettered(0), "p", 1);
        letter(lettered(0), "k", 0);
        letter(lettered(0), "v", 8);
        letter(lettered(0), "n", 3);
        letter(lettered(13), "a", 3);
        letter(lettered(10), "a", 0);
        letter(lettered(13), "d", 6);
        letter(lettered(7), "d", 0);
        CellarPlot x = new CellarPlot();
        x.man(5, 0, 0);
        Due.charter(x, "loud 10 k=5");
        due("k of a DANCER", x.of(0, 5), 8);
        Due.charter(x, "loud 10 k=2");
        due("k of a DANCER is no STOKER's", x.of(0, 5), 3);
    }
}
