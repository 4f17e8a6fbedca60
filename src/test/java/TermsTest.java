import java.util.ArrayList;
import java.util.List;

/** The bounds that the section 'Terms' names, in its order, a test for each of its sentences. */
public final class TermsTest {
    private static final int NEVER = -5, FULL = -4;
    private static final int LEAST = Integer.MIN_VALUE, MOST = Integer.MAX_VALUE;
    private static final String FACT = "!(pkvnad", SIGNS = "<=>", DIGITS = "0123456789", CLAUSE = "lhc";

    private static void due(String call, long got, long want) {
        Due.due(call, got, want);
    }

    private static CellarPlot with(int... kinds) {
        CellarPlot x = new CellarPlot();
        for (int kind : kinds) {
            x.man(kind, 0, 0);
        }
        return x;
    }

    /** COOKS with NERVE 0: their NOISE is v. */
    private static CellarPlot cooks(int... vs) {
        CellarPlot x = new CellarPlot();
        for (int v : vs) {
            x.man(1, v, 0);
        }
        return x;
    }

    public static void main(String[] args) {
        signsThatMayFollow();
        signsThatMayFollowWithin();
        anyOtherSign();
        endsTooEarly();
        textsOf100();
        tenClauses();
        within4();
        everyE();
        numbersOfClauses();
        numbersOfTests();
        moduloTenAndSeven();
        calm();
        sum();
        stokerAndDancer();
        sleeperAndTold();
        cellarman();
        sound();
        fearOfADay();
        truthsOfADay();
        silencesOfADay();
        spellOfADay();
        beyond9999();
        hushed();
        hushedBeyond();
        heardBeyond();
        change();
        fright();
        watches();
        heard();
        odds();
        plan();
        actsWrap();
        theImage();
        theImagesCharter();
        Due.end();
    }

    // ---- 1: charters

    private static void fault(String text, int place) {
        CellarPlot x = new CellarPlot();
        Due.feed(x, text);
        due("FAULT of '" + text + "'", x.charter(), -10 - place);
        due("no CHARTER of '" + text + "'", x.count(1), 0);
    }

    private static void good(String text) {
        CellarPlot x = new CellarPlot();
        Due.feed(x, text);
        due("'" + text + "'", x.charter(), 0);
    }

    /** Behind the text just these signs may come: 127 never comes behind any of them. */
    private static void follow(String text, String signs) {
        for (char sign = 0; sign < 128; sign++) {
            boolean may = signs.indexOf(sign) >= 0;
            fault(text + sign + (char) 127, text.length() + (may ? 1 : 0));
        }
    }

    /** "The place of the first byte with which none begins so." */
    private static void signsThatMayFollow() {
        follow("", CLAUSE);
        follow("l", "o");
        follow("lou", "d");
        follow("h", "u");
        follow("hus", "h");
        follow("c", "a");
        follow("cal", "m");
        follow("loud", " ");
        follow("hush", " ");
        follow("calm", " ");
        follow("loud ", DIGITS);
        follow("calm ", DIGITS);
        follow("loud 1", DIGITS + " ");
        follow("hush 12", " ");
        follow("calm 1", DIGITS + ";");
        follow("calm 12", ";");
        follow("calm 12;", CLAUSE);
        follow("loud 1 ", FACT);
        for (char letter : "pkvnad".toCharArray()) {
            follow("loud 1 " + letter, SIGNS);
        }
        for (char sign : SIGNS.toCharArray()) {
            follow("hush 1 p" + sign, DIGITS);
        }
        follow("loud 1 p=1", DIGITS + "&|;");
        follow("loud 1 p=12", "&|;");
        follow("loud 1 p=12&", FACT);
        follow("loud 1 p=12|", FACT);
        follow("loud 1 p=12;", CLAUSE);
    }

    private static void signsThatMayFollowWithin() {
        follow("loud 1 (", FACT);
        follow("loud 1 !", FACT);
        follow("loud 1 !p=12", "&|;");
        follow("loud 1 (p=1", DIGITS + "&|)");
        follow("loud 1 (p=12", "&|)");
        follow("loud 1 (p=12)", "&|;");
        follow("loud 1 ((p=12)", "&|)");
        follow("loud 1 (!p=12", "&|)");
        follow("loud 1 !(p=12)", "&|;");
        follow("loud 1 (((", FACT);
        follow("loud 1 !(!", FACT);
        follow("loud 1 ((((", "pkvnad");
        follow("loud 1 !!!!", "pkvnad");
        follow("loud 1 ((((p=12&", "pkvnad");
        follow("loud 1 ((((p=12|", "pkvnad");
        follow("loud 1 ((((p=12)&", FACT);
        follow("loud 1 !!!!p=12&", FACT);
        follow("loud 1 (!!!p=12|", FACT);
        follow("calm 1;hush 1 !!!!p=12;loud 9 ", FACT);
    }

    /** At each place of a text a sign that none has there, and another one behind it that is none either. */
    private static void anyOtherSign() {
        String text = "loud 12 !(p<3|k=4)&v>5;hush 7 n=20|a<9;calm 3;loud 0 d>1";
        good(text);
        for (char other : new char[] {0, '~', 127, 'L', '\t'}) {
            for (int place = 0; place < text.length(); place++) {
                String signs = text.substring(0, place) + other + text.substring(place + 1);
                fault(signs, place);
                fault(signs.substring(0, signs.length() - 1) + other, place);
            }
            fault(text + other, text.length());
        }
    }

    /** "The end of THE TEXT, if it ends too early." */
    private static void endsTooEarly() {
        String text = "loud 12 !(p<3|k=4)&v>56;hush 7 n=20;calm 34";
        List<String> whole = List.of("loud 12 !(p<3|k=4)", "loud 12 !(p<3|k=4)&v>5", "loud 12 !(p<3|k=4)&v>56",
            "loud 12 !(p<3|k=4)&v>56;hush 7 n=2", "loud 12 !(p<3|k=4)&v>56;hush 7 n=20",
            "loud 12 !(p<3|k=4)&v>56;hush 7 n=20;calm 3", text);
        for (int length = 0; length <= text.length(); length++) {
            String begun = text.substring(0, length);
            if (whole.contains(begun)) {
                good(begun);
            } else {
                fault(begun, length);
            }
        }
    }

    private static String repeated(String part, int times) {
        StringBuilder text = new StringBuilder();
        for (int i = 0; i < times; i++) {
            text.append(part);
        }
        return text.toString();
    }

    /** "THE TEXT (bytes, 100 at most)." */
    private static void textsOf100() {
        String text = "loud 10 p=1" + repeated("|p=1", 22);
        due("signs", text.length(), 99);
        good(text);
        good(text + "0");
        fault(text + "|", 100);
        fault(text + "x", 99);
        fault(repeated("loud 10 !p=1&!p=2|", 6).substring(0, 100), 18);
        fault("loud 10 " + repeated("p=1&", 23), 100);
        CellarPlot x = new CellarPlot();
        due("the 100th", Due.feed(x, text + "0"), 100);
        due("no 101st", x.feed('0'), FULL);
        due("of 100", x.charter(), 0);
        CellarPlot y = with(0, 0);
        Due.charter(y, text.substring(0, 98) + "11");
        due("SUM of 100 signs", y.of(1, 5), 10);
        Due.charter(y, text.substring(0, 98) + "00");
        due("SUM of 100 signs", y.of(1, 5), 10);
        Due.charter(y, "loud 10 " + repeated("p=0&", 22) + "p=01");
        due("SUM of 100 signs, none of it", y.of(0, 5), 0);
    }

    /** "CLAUSES, 1 to 10, with ; between." */
    private static void tenClauses() {
        fault("", 0);
        for (int n = 1; n <= 10; n++) {
            String text = repeated("calm 1;", n - 1) + "calm 25";
            good(text);
            fault(text + ";", text.length() + (n < 10 ? 1 : 0));
            fault(text + ";;", text.length() + (n < 10 ? 1 : 0));
            fault(";" + text, 0);
            CellarPlot x = new CellarPlot();
            Due.charter(x, text);
            due("CALM by the last of " + n, x.told(1), 25);
        }
        fault(repeated("calm 1;", 10) + "calm 1", 69);
        fault(repeated("hush 1 p=1;", 9) + ";", 99);
        CellarPlot x = with(0);
        Due.charter(x, repeated("loud 3 p=0;", 8) + "loud 1 v=0");
        due("SUM of nine", x.of(0, 5), 25);
        Due.charter(x, repeated("loud 1 p=0;", 5) + repeated("calm 2;", 4) + "hush 9 p=0");
        due("SUM by the tenth, too", x.of(0, 5), -4);
        due("CALM of ten", x.told(1), 2);
    }

    /** "A ( or ! within 4 others is none", whichever of the two each is. */
    private static void within4() {
        for (int deep = 0; deep <= 5; deep++) {
            for (int mix = 0; mix < 1 << deep; mix++) {
                StringBuilder text = new StringBuilder("loud 1 ");
                int open = 0;
                for (int i = 0; i < deep; i++) {
                    boolean isOpening = (mix >> i & 1) == 1;
                    text.append(isOpening ? '(' : '!');
                    open += isOpening ? 1 : 0;
                }
                text.append("p=1").append(repeated(")", open));
                if (deep <= 4) {
                    good(text.toString());
                } else {
                    fault(text.toString(), 7 + 4);
                }
            }
        }
        good("loud 1 ((((p=1))))&((((p=1))))|!!!!p=1&!!!!p=1|(((!p=1|(p=1))))");
        fault("loud 1 ((((p=1)|(!p=1))))", 17);
        good("loud 1 (p=1)&(p=1)&(p=1)&(p=1)&(p=1)&(p=1)&!p=1&!p=1&!p=1&!p=1&!p=1&!p=1");
    }

    /** Texts of an E, or of a part of one, in [0] those that don't hold of MAN 0, in [1] those that do. */
    private static List<List<String>> facts(boolean isWithin) {
        List<List<String>> facts = List.of(new ArrayList<>(List.of("p=1")), new ArrayList<>(List.of("p=0")));
        if (isWithin) {
            for (int is = 0; is <= 1; is++) {
                facts.get(is).add(is == 1 ? "!p=1" : "!p=0");
                facts.get(is).add(is == 1 ? "!!p=0" : "!!p=1");
            }
            List<List<String>> plain = facts(false);
            List<List<String>> either = joined(joined(plain, "&"), "|");
            for (int is = 0; is <= 1; is++) {
                for (String e : either.get(is)) {
                    facts.get(is).add("(" + e + ")");
                    facts.get(1 - is).add("!(" + e + ")");
                }
            }
        }
        return facts;
    }

    /** The parts, and each two of them joined by & or |. */
    private static List<List<String>> joined(List<List<String>> parts, String by) {
        List<List<String>> joined = List.of(new ArrayList<>(parts.get(0)), new ArrayList<>(parts.get(1)));
        for (int one = 0; one <= 1; one++) {
            for (int other = 0; other <= 1; other++) {
                int is = by.equals("&") ? one & other : one | other;
                for (String a : parts.get(one)) {
                    for (String b : parts.get(other)) {
                        joined.get(is).add(a + by + b);
                    }
                }
            }
        }
        return joined;
    }

    /** "E: T or T|E. T: F or F&T. F: !F, (E), or a TEST." */
    private static void everyE() {
        for (String by : new String[] {"&", "|"}) {
            List<List<String>> all = joined(facts(true), by);
            for (int is = 0; is <= 1; is++) {
                for (String e : all.get(is)) {
                    CellarPlot x = with(0);
                    Due.charter(x, "loud 5 " + e + ";hush 2 " + e);
                    due("E " + e, x.of(0, 5), 3 * is);
                }
            }
        }
        List<List<String>> plain = joined(joined(facts(false), "&"), "|");
        List<List<String>> of3 = joined(joined(plain, "|"), "|");
        for (int is = 0; is <= 1; is++) {
            for (int i = 0; i < of3.get(is).size(); i += 199) {
                CellarPlot x = with(0);
                Due.charter(x, "loud 5 " + of3.get(is).get(i));
                due("E " + of3.get(is).get(i), x.of(0, 5), 5 * is);
            }
        }
    }

    /** "n 1 or 2 digits." */
    private static void numbersOfClauses() {
        CellarPlot x = with(0);
        due("loud 99", Due.charter(x, "loud 99 p=0"), 0);
        due("99 more", x.of(0, 5), 99);
        due("hush 99", Due.charter(x, "hush 99 p=0"), 1);
        due("99 less", x.of(0, 5), -99);
        due("loud 0", Due.charter(x, "loud 0 p=0;calm 0"), 2);
        due("none more", x.of(0, 5), 0);
        due("calm 0", x.told(1), 0);
        due("calm 99", Due.charter(x, "calm 99;loud 07 p=0"), 3);
        due("CALM 99", x.told(1), 99);
        due("07 more", x.of(0, 5), 7);
        due("calm 00", Due.charter(x, "loud 9 p=0;hush 10 p=0;calm 00"), 4);
        due("CALM 00", x.told(1), 0);
        due("9 more, 10 less", x.of(0, 5), -1);
        fault("calm 100", 7);
        fault("calm 000", 7);
        fault("loud 100 p=0", 7);
        fault("calm /", 5);
        fault("calm :", 5);
        fault("calm 1/", 6);
        fault("calm 1:", 6);
        fault("calm -1", 5);
        fault("calm +1", 5);
        fault("calm ;", 5);
    }

    /** "A number (1 or 2 digits)": of a MAN whose v is 9. */
    private static void numbersOfTests() {
        CellarPlot x = new CellarPlot();
        x.man(0, 9, 0);
        x.image();
        due("as told", Due.charter(x, "loud 1 v<0;loud 2 v>99;loud 4 v<99;loud 8 v>0;loud 16 v=09;loud 32 v=9"), 0);
        due("0 and 99", x.of(0, 5), 4 + 8 + 16 + 32);
        due("as told", Due.charter(x, "loud 1 v<9;loud 2 v<10;loud 4 v>9;loud 8 v>8;loud 16 v=10;loud 32 v=8"), 1);
        due("one to either side", x.of(0, 5), 2 + 8);
        due("as told", Due.charter(x, "loud 1 p<0;loud 2 p=0;loud 4 p>0;loud 8 p<1;loud 16 p=00"), 2);
        due("of 0", x.of(0, 5), 2 + 8 + 16);
        fault("loud 1 v<100", 11);
        fault("loud 1 v=/", 9);
        fault("loud 1 v=:", 9);
        fault("loud 1 v=1/", 10);
        fault("loud 1 v=1:", 10);
    }

    /** "a SPELL modulo 10, d DAY modulo 7." */
    private static void moduloTenAndSeven() {
        for (int days : new int[] {0, 1, 6, 7, 8, 9, 10, 11, 13, 14, 19, 20, 60}) {
            CellarPlot y = with(0, 0);
            y.change(1, true);
            y.pass(days);
            Due.charter(y, "loud 10 a>" + (days % 10) + ";loud 1 a=" + (days % 10) + ";loud 10 a<" + (days % 10));
            due("a of SPELL " + days, y.of(0, 5), 1);
            Due.charter(y, "loud 10 d>" + (days % 7) + ";loud 1 d=" + (days % 7) + ";loud 10 d<" + (days % 7));
            due("d of DAY " + days, y.of(0, 5), 1);
            Due.charter(y, "loud 1 a=0;loud 10 a>0");
            due("a of one UP", y.of(1, 5), 1);
            Due.charter(y, "loud 10 a>9;loud 10 d>6");
            due("a is 9 at most, d 6 at most", y.of(0, 5), 0);
        }
    }

    /** "CALM (10 without): the last one's n." */
    private static void calm() {
        CellarPlot x = new CellarPlot();
        due("without a CHARTER", x.told(1), 10);
        Due.charter(x, "calm 0");
        due("0", x.told(1), 0);
        Due.charter(x, "loud 1 p=1");
        due("without one in the CHARTER", x.told(1), 10);
        Due.charter(x, "calm 99;calm 7;loud 1 p=1");
        due("the last one's", x.told(1), 7);
        Due.charter(x, "calm 7;calm 99");
        due("the last one's", x.told(1), 99);
    }

    /** "SUM: the n of all loud whose E holds, less those of all hush, and less NERVE by 4 (cut) (may be below 0)." */
    private static void sum() {
        CellarPlot x = with(0);
        for (int nerve = 0; nerve <= 20; nerve++) {
            x.steady(0, nerve);
            due("less NERVE " + nerve + " by 4", x.of(0, 5), -(nerve / 4));
        }
        Due.charter(x, repeated("hush 99 p=0;", 7) + "hush 99 p=0");
        due("far below 0", x.of(0, 5), -8 * 99 - 5);
        Due.charter(x, repeated("loud 99 p=0;", 7) + "loud 99 p=0");
        due("far above 0", x.of(0, 5), 8 * 99 - 5);
        due("SOUND as much", x.told(5), 8 * 99 - 5);
    }

    // ---- 1: NOISE, SOUND

    private static CellarPlot of(int kind, String charter) {
        CellarPlot x = new CellarPlot();
        x.man(kind, 7, 0);
        Due.charter(x, charter);
        return x;
    }

    /** "The half (cut toward 0) of SUM, and 3"; "twice that, if another one below is a DANCER". */
    private static void stokerAndDancer() {
        int[] sums = {-9, -8, -7, -6, -5, -3, -2, -1, 0, 1, 2, 3, 4, 99};
        int[] noises = {-1, -1, 0, 0, 1, 2, 2, 3, 3, 3, 4, 4, 5, 52};
        for (int i = 0; i < sums.length; i++) {
            String charter = (sums[i] < 0 ? "hush " + -sums[i] : "loud " + sums[i]) + " p=0";
            due("STOKER by " + sums[i], of(2, charter).of(0, 5), noises[i]);
            CellarPlot x = of(5, charter);
            due("DANCER by " + sums[i], x.of(0, 5), noises[i]);
            x.man(2, 0, 0);
            due("DANCER and a STOKER by " + sums[i], x.of(0, 5), noises[i]);
            x.man(5, 0, 0);
            due("DANCER of two by " + sums[i], x.of(0, 5), noises[i] * 2);
            x.man(5, 0, 0);
            due("DANCER of three by " + sums[i], x.of(0, 5), noises[i] * 2);
            x.change(2, true);
            due("DANCER, one of the others UP, by " + sums[i], x.of(0, 5), noises[i] * 2);
            x.change(3, true);
            due("DANCER, all others UP, by " + sums[i], x.of(0, 5), noises[i]);
            due("one UP, another one below", x.of(2, 5), 6);
        }
    }

    /** "SLEEPER: SUM; 0, if DAY modulo 7 is 0"; "TOLD: its ROW at DAY modulo 4 more". */
    private static void sleeperAndTold() {
        CellarPlot x = with(3, 6);
        Due.charter(x, "hush 5 p<2");
        for (int part = 0; part < 4; part++) {
            x.row(1, part, 9 - part);
        }
        for (int day = 0; day <= 29; day++) {
            int asSleeper = day % 7 == 0 ? 0 : -5;
            due("SLEEPER on DAY " + day, x.of(0, 5), asSleeper);
            due("TOLD on DAY " + day, x.of(1, 5), asSleeper + 9 - day % 4);
            x.pass(1);
        }
        CellarPlot y = with(6);
        due("ROW 0 at first", y.of(0, 5), 0);
        y.row(0, 0, 9);
        due("ROW 9", y.of(0, 5), 9);
    }

    /** "As COOK, less SPELL (9 at most)." */
    private static void cellarman() {
        CellarPlot x = of(4, "loud 5 p=0");
        for (int spell = 0; spell <= 12; spell++) {
            due("SPELL", x.of(0, 4), spell);
            due("CELLARMAN of SPELL " + spell, x.of(0, 5), 12 - (spell < 9 ? spell : 9));
            x.pass(1);
        }
        x.change(0, true);
        due("one UP: SPELL stays", x.of(0, 5), 3);
        x.pass(1);
        due("one UP: SPELL is 0", x.of(0, 5), 12);
        due("COOK", of(1, "hush 8 p=0").of(0, 5), -1);
    }

    /** "NOISE of each MAN not UP, as 0 if below, together." */
    private static void sound() {
        CellarPlot x = cooks(1, 0, 9);
        Due.charter(x, "hush 1 p<2");
        due("0, -1 and 9", x.told(5), 9);
        x.change(2, true);
        due("0 and -1", x.told(5), 0);
        x.pass(1);
        due("0 is a silence", x.told(4), 1);
        x.change(2, false);
        x.change(0, true);
        due("-1 and 9", x.told(5), 9);
        CellarPlot y = with(0, 0, 0, 0, 0, 0);
        Due.charter(y, repeated("loud 99 v=0;", 7) + "loud 99 v=0");
        due("the loudest six", y.told(5), 6 * 8 * 99);
        y.pass(1);
        due("FEAR by them", y.told(2), (6 * 8 * 99 - 10) / 2);
    }

    // ---- 1: a DAY

    private static void day(int fear, int sound, int calm, int then) {
        CellarPlot x = with(0);
        Due.charter(x, "calm " + calm + ";loud " + sound + " p=0");
        x.fear(fear);
        x.pass(1);
        due("FEAR of " + fear + " by SOUND " + sound + ", CALM " + calm, x.told(2), then);
        due("TRUTHS of " + fear + " by SOUND " + sound + ", CALM " + calm, x.told(3), fear + sound - calm >= 100 ? 1 : 0);
        due("SILENCES by SOUND " + sound, x.told(4), 0);
    }

    /** "FEAR is SOUND more and CALM less (0 at least); 9999 at most." */
    private static void fearOfADay() {
        day(0, 1, 0, 1);
        day(0, 1, 1, 0);
        day(0, 1, 2, 0);
        day(0, 1, 99, 0);
        day(5, 4, 8, 1);
        day(5, 4, 9, 0);
        day(5, 4, 10, 0);
        day(9999, 1, 1, 4999);
        day(9999, 1, 2, 4999);
        day(9999, 1, 3, 4998);
        day(9999, 2, 1, 4999);
        day(9999, 99, 0, 4999);
        day(9901, 98, 0, 4999);
        day(9901, 99, 0, 4999);
    }

    /** "If FEAR is 100 or more then, TRUTHS are 1 more, and FEAR is its half (cut)." */
    private static void truthsOfADay() {
        day(98, 1, 0, 99);
        day(99, 1, 0, 50);
        day(100, 1, 0, 50);
        day(101, 1, 0, 51);
        day(100, 1, 1, 50);
        day(100, 1, 2, 99);
        CellarPlot x = new CellarPlot();
        x.fear(200);
        x.pass(1);
        due("once a DAY, though its half is 100 or more", x.told(3), 1);
        due("its half", x.told(2), 125);
    }

    /** "If SOUND is 0, SILENCES are 1 more and FEAR is 50 more", and not CALM less. */
    private static void silencesOfADay() {
        int[][] fears = {{0, 50, 0}, {1, 51, 0}, {49, 99, 0}, {50, 50, 1}, {51, 50, 1}, {52, 51, 1}, {9948, 4999, 1},
            {9949, 4999, 1}, {9950, 4999, 1}, {9951, 4999, 1}, {9999, 4999, 1}};
        for (int[] fear : fears) {
            CellarPlot x = with(0);
            Due.charter(x, "calm 99;hush 1 p=0");
            x.fear(fear[0]);
            x.pass(1);
            due("FEAR of " + fear[0] + " by a silence", x.told(2), fear[1]);
            due("TRUTHS of " + fear[0] + " by a silence", x.told(3), fear[2]);
            due("SILENCES", x.told(4), 1);
        }
    }

    /** "SPELL of each MAN not UP is 1 more, of each other one 0"; SOUND goes by how all is ahead of it. */
    private static void spellOfADay() {
        CellarPlot x = with(0, 0);
        x.pass(5);
        x.change(0, true);
        due("stays when it changes over", x.of(0, 4), 5);
        x.pass(1);
        due("0 of one UP", x.of(0, 4), 0);
        due("1 more of the other", x.of(1, 4), 6);
        x.change(0, false);
        x.pass(1);
        due("1 again", x.of(0, 4), 1);
        CellarPlot y = with(0);
        Due.charter(y, "loud 30 a=0&d=0;loud 40 a=1&d=1;calm 0");
        y.pass(1);
        due("SPELL 0, DAY 0 ahead of it", y.told(2), 30);
        y.pass(1);
        due("SPELL 1, DAY 1 ahead of it", y.told(2), 70);
    }

    // ---- 2: what is asked

    private static CellarPlot onTheLastDay(int kind, int v) {
        CellarPlot x = new CellarPlot();
        x.man(kind, v, 0);
        x.fear(9999);
        for (int n = 0; n < 166; n++) {
            x.pass(60);
        }
        x.pass(39);
        due("the last DAY", x.told(0), 9999);
        return x;
    }

    /** "What is asked goes on from how all is (SPELL, DAY, TRUTHS, SILENCES beyond 9999, too)"; FEAR does not. */
    private static void beyond9999() {
        CellarPlot x = onTheLastDay(0, 0);
        due("TRUTHS now", x.on(0, 1), 9999);
        due("SILENCES now", x.on(0, 2), 9999);
        due("TRUTHS behind 1", x.on(1, 1), 10000);
        due("SILENCES behind 1", x.on(1, 2), 10000);
        due("SILENCES behind 60", x.on(60, 2), 10059);
        due("most TRUTHS behind 1", x.best(1, 1), 10000);
        due("just these below: none", x.best(1, 2), 0);
        due("ODDS of 1", x.odds(1, 0), 1);
        due("ODDS of 0", x.odds(0, 0), 0);
        x.plan(0, 0);
        due("TRUTHS by a PLAN", x.ends(1), 10000);
        x.fear(9999);
        due("FEAR 9999 at most", x.on(1, 0), 4999);
        due("FEAR 9999 at most by a PLAN", x.ends(0), 4999);
        due("asked: TRUTHS are as they were", x.told(3), 9999);
        due("asked: SILENCES are as they were", x.told(4), 9999);
        due("asked: SPELL is as it was", x.of(0, 4), 9999);
        due("asked: DAY is as it was", x.told(0), 9999);
        Due.charter(x, "loud 1 d=3;loud 2 d=4;loud 4 a=9;loud 8 a=0;loud 16 a=1");
        due("SPELL 9999, DAY 9999", x.on(0, 3), 1 + 4);
        due("SPELL 10000, DAY 10000", x.on(1, 3), 2 + 8);
        due("SPELL 10001, DAY 10001", x.on(2, 3), 16);
    }

    /** "The fewest DAYS (0 .. 60) behind which SOUND is 0 (-5: not by then)." */
    private static void hushed() {
        due("now", cooks(0).told(7), 0);
        due("not by then", cooks(1).told(7), NEVER);
        due("no MEN", new CellarPlot().told(7), 0);
        for (int v = 1; v <= 9; v++) {
            CellarPlot x = new CellarPlot();
            x.man(4, v, 0);
            due("behind " + v, x.told(7), v);
        }
        CellarPlot x = with(0);
        Due.charter(x, "loud 1 !(d=3&a=9)");
        due("59, by DAY 3, SPELL 9", x.told(7), 59);
        Due.charter(x, "loud 1 !(d=4&a=0)|a>0");
        due("behind 0, it is DAY 0, SPELL 0: not by 60", x.told(7), 60);
        Due.charter(x, "loud 1 !(d=5&a=1)");
        due("61 would be too late", x.told(7), NEVER);
    }

    private static void hushedBeyond() {
        CellarPlot x = onTheLastDay(0, 0);
        Due.charter(x, "loud 1 !(a=0&d=4)");
        due("HUSHED by SPELL 10000", x.told(7), 1);
        Due.charter(x, "loud 1 !(d=2&a=9)");
        due("HUSHED by SPELL 10019", x.told(7), 20);
    }

    private static void heardBeyond() {
        CellarPlot x = onTheLastDay(1, 5);
        Due.charter(x, "loud 9 a=0;loud 30 d=4");
        x.hear(0, 5);
        x.hear(1, 44);
        x.hear(2, 5);
        due("NERVES beyond", x.of(0, 6), 15);
        due("CAN beyond", x.can(0, 1), 5);
        x.hear(3, 44);
        due("otherwise", x.can(0, 0), 0);
    }

    /** "TRUTHS behind n are most (of several the one with the fewest MEN, of these the least as bits)." */
    private static void change() {
        CellarPlot all = with(0, 0, 0, 0, 0, 0);
        all.fear(100);
        Due.charter(all, "loud 1 v=0");
        due("all six, as just a silence is a truth", all.best(1, 0), 63);
        Due.charter(all, "loud 2 v=0");
        due("none: SOUND 12 less CALM 10", all.best(1, 0), 0);
        Due.charter(all, "loud 2 v=0;calm 10;loud 50 p=5");
        due("none", all.best(1, 0), 0);
        Due.charter(all, "loud 5 p=1;loud 5 p=3;calm 9");
        due("none: SOUND 10 less CALM 9", all.best(1, 0), 0);
        Due.charter(all, "loud 3 p=1;loud 3 p=3;calm 9");
        due("both that are loud", all.best(1, 0), 10);
        CellarPlot x = cooks(9, 9, 9);
        x.fear(80);
        for (int set = 0; set < 8; set++) {
            for (int man = 0; man < 3; man++) {
                x.change(man, (set >> man & 1) == 1);
            }
            due("just these UP, whoever is now", x.best(1, 0), 7);
            due("with one truth", x.best(1, 1), 1);
        }
    }

    /** "TRUTHS behind n are more than now (-5: none)." */
    private static void fright() {
        CellarPlot x = cooks(9, 9, 9, 9, 9, 9);
        x.fear(99);
        due("none below: a silence", x.best(1, 2), 0);
        x.fear(49);
        due("none: all six are 54 less 10", x.best(1, 2), NEVER);
        x.fear(50);
        due("none below: 100 by a silence", x.best(1, 2), 0);
        x = with(0, 0, 0, 0, 0, 0);
        Due.charter(x, "loud 19 v=0;calm 14");
        due("all six: 114 less 14", x.best(1, 2), 63);
        Due.charter(x, "loud 19 v=0;calm 15");
        due("99 is none", x.best(1, 2), NEVER);
        Due.charter(x, "loud 55 p>3");
        due("two of the last", x.best(1, 2), 48);
        x.fear(0);
        Due.charter(x, "loud 99 p>3;loud 11 p>3");
        due("one, the least as bits", x.best(1, 2), 16);
    }

    /** "0, if all are UP"; as 0 if below; "of several the least as bits". */
    private static void watches() {
        CellarPlot x = new CellarPlot();
        due("no MEN: how much", x.told(8), 0);
        due("no MEN: the one", x.told(9), 0);
        x = cooks(9, 9, 9, 9, 9, 9);
        due("six: how much", x.told(8), 0);
        due("six: the least as bits", x.told(9), 7);
        for (int man = 0; man < 5; man++) {
            x.change(man, true);
        }
        due("just the last: how much", x.told(8), 9);
        due("just the last: the one", x.told(9), 32);
        x.change(5, true);
        due("all UP: how much", x.told(8), 0);
        due("all UP: the one", x.told(9), 0);
        x = cooks(3, 3, 3);
        Due.charter(x, "hush 9 p=0");
        due("-6 as 0: how much", x.told(8), 0);
        due("-6 as 0: the one", x.told(9), 3);
        Due.charter(x, "hush 9 p>0");
        due("3 and none: how much", x.told(8), 3);
        due("3 and none: the one", x.told(9), 1);
    }

    /** "NERVES: those numbers 0 .. 20"; "CAN: how many numbers v (0 .. 9)". */
    private static void heard() {
        CellarPlot x = with(0);
        Due.charter(x, "loud 50 n=20;loud 40 n=0");
        x.hear(0, 45);
        due("just 20", x.of(0, 6), 1 << 20);
        x.hear(-1, 0);
        x.hear(0, 40);
        due("just 0", x.of(0, 6), 1);
        x.hear(-1, 0);
        x.hear(12, 0);
        due("all but these two", x.of(0, 6), 0xffffe);
        x.hear(0, 0);
        x.hear(1, 0);
        x.hear(2, 0);
        x.hear(11, 0);
        due("by five rows", x.of(0, 6), 0xffffe);
        due("CAN by five rows", x.can(0, 0), 0);
        x.steady(0, 7);
        due("CAN by another NERVE", x.can(0, 0), 10);
        CellarPlot y = cooks(4);
        Due.charter(y, "loud 5 d=0&a=0;loud 3 d=5&a=2");
        y.hear(12, 7);
        due("the 12th DAY from now", y.can(0, 1), 4);
        due("just that", y.can(0, 0), 1);
        y.pass(1);
        due("from now, a DAY on", y.can(0, 1), 7);
    }

    /** "A fraction in lowest terms." */
    private static void odds() {
        long[][] terms = {{0, 1}, {1, 6}, {1, 3}, {1, 2}, {2, 3}, {5, 6}, {1, 1}};
        for (int more = 0; more <= 6; more++) {
            CellarPlot x = with(0, 0, 0, 0, 0, 0);
            for (int man = 0; man < 6; man++) {
                x.change(man, true);
            }
            Due.charter(x, "loud 60 p<" + more + ";loud 1 p<6;calm 1");
            x.fear(49);
            due(more + " of 6, above", x.odds(1, 0), terms[more][0]);
            due(more + " of 6, below", x.odds(1, 1), terms[more][1]);
        }
    }

    /** "0 a DAY, 1 a MAN is UP, 2 it is not, 3 FEAR is 0; 10 rows at most." */
    private static void plan() {
        CellarPlot x = cooks(9, 0);
        x.fear(30);
        int[][] rows = {{0, 0}, {1, 0}, {0, 0}, {0, 0}, {2, 0}, {0, 0}, {3, 5}, {1, 1}, {0, 0}, {1, 0}};
        int[] fears = {29, 29, 79, 64, 64, 63, 0, 0, 0, 0};
        int[] truths = {0, 0, 0, 1, 1, 1, 1, 1, 1, 1};
        for (int i = 0; i < rows.length; i++) {
            due("comes", x.plan(rows[i][0], rows[i][1]), i + 1);
            due("FEAR behind row " + i, x.ends(0), fears[i]);
            due("TRUTHS behind row " + i, x.ends(1), truths[i]);
        }
        due("no eleventh", x.plan(0, 0), FULL);
        due("asked: FEAR is as it was", x.told(2), 30);
        due("asked: none is UP", x.told(6), 0);
    }

    private static void acts(CellarPlot x, int man, int act, int with, int want) {
        due("act " + man + " " + act + " " + with, x.act(man, act, with), want);
    }

    /** "ACTS of a MAN with x (wrapping)": each body's numbers where they wrap. */
    private static void actsWrap() {
        CellarPlot x = new CellarPlot();
        for (int kind = 1; kind <= 6; kind++) {
            x.man(kind, 9, 0);
        }
        CellarPlot y = new CellarPlot();
        y.man(0, 9, 0);
        y.man(0, 9, 0);
        acts(y, 1, 0, MOST, LEAST);
        acts(y, 1, 1, MOST, MOST - 8);
        acts(y, 0, 1, LEAST, MOST - 8);
        acts(y, 0, 2, LEAST, -18);
        acts(y, 0, 2, (1 << 30) + 9, LEAST);
        acts(x, 0, 1, LEAST, (MOST - 8) ^ 6);
        acts(x, 1, 0, MOST, MOST - 2 + 1);
        acts(x, 1, 0, LEAST, LEAST + 1);
        acts(x, 1, 0, 1 << 30, LEAST + (1 << 30) + 1);
        acts(x, 2, 2, LEAST + 7, 2 * (LEAST + 9 - 9) + (1 + 2 - 9));
        acts(x, 2, 2, (1 << 30) + 7, LEAST + 1 + 2 - 9);
        acts(x, 2, 2, (1 << 30) + 6, MOST - 1 + 1 + 2 - 9);
        acts(x, 3, 0, LEAST, MOST - 2);
        acts(x, 3, 0, LEAST - 3, LEAST);
        acts(x, 3, 1, MOST, (MOST - 2 - 9) ^ 6);
        acts(x, 4, 2, LEAST, 2 * (3 * (MOST - 3) + 4 - 9));
        acts(x, 5, 0, MOST, (LEAST + 4) ^ 9);
        acts(x, 5, 1, MOST - 4, ((MOST - 4 + 5) ^ 9) - 9 + 7);
    }

    // ---- 2: THE IMAGE

    private static List<Long> all(CellarPlot x) {
        List<Long> all = new ArrayList<>();
        for (int man = 0; man < 6; man++) {
            for (int what = 0; what <= 6; what++) {
                all.add((long) x.of(man, what));
            }
            all.add((long) x.can(man, 0));
        }
        for (int what = 0; what <= 9; what++) {
            all.add((long) x.told(what));
        }
        for (int what : new int[] {0, 2, 3, 4}) {
            all.add((long) x.count(what));
        }
        all.add((long) x.ends(0));
        all.add((long) x.ends(1));
        all.add((long) x.looked());
        return all;
    }

    private static void same(String what, List<Long> got, List<Long> want) {
        due(what + ": how many", got.size(), want.size());
        for (int i = 0; i < want.size(); i++) {
            due(what + ": the " + i + "th", got.get(i), want.get(i));
        }
    }

    /** "MEN with all that is theirs, FEAR, TRUTHS, SILENCES, DAY, HEARD, the PLAN, the BOOK", each changed alone. */
    private static void theImage() {
        for (int change = 0; change < 13; change++) {
            CellarPlot x = cooks(3, 4);
            x.man(6, 1, 9);
            x.change(1, true);
            x.row(2, 0, 5);
            x.row(2, 2, 7);
            Due.charter(x, "loud 2 p=2&!a=3;calm 4");
            x.fear(70);
            x.pass(2);
            x.hear(0, x.told(5));
            x.plan(0, 0);
            x.plan(1, 2);
            x.plan(0, 0);
            x.book(0, 0);
            x.book(2, 8);
            List<Long> before = all(x);
            due("the MEN", x.image(), 3);
            same("behind image()", all(x), before);
            changed(x, change);
            due("the MEN", x.undo(), 3);
            same("behind undo() of change " + change, all(x), before);
            due("its ROW", x.row(2, 0, 0), 5);
            due("its ROW", x.row(2, 1, 0), 0);
            due("its ROW", x.row(2, 2, 0), 7);
            due("THE IMAGE is there still", x.undo(), 3);
            same("behind undo() again", all(x), before);
        }
    }

    private static void changed(CellarPlot x, int change) {
        switch (change) {
            case 0: x.man(6, 1, 1); break;
            case 1: x.steady(2, 20); break;
            case 2: x.change(1, false); break;
            case 3: x.change(2, true); break;
            case 4: x.fear(0); break;
            case 5: x.row(2, 2, 9); break;
            case 6: Due.charter(x, "calm 99;loud 9 v<9"); break;
            case 7: x.pass(5); break;
            case 8: x.hear(-1, 0); x.hear(0, 99); break;
            case 9: x.hear(1, 1); break;
            case 10: x.plan(-1, 0); x.plan(3, 0); break;
            case 11: x.book(-1, 0); x.book(1, 9); break;
            default: x.image(); break;
        }
    }

    /** "Which CHARTER holds", though not how many there are. */
    private static void theImagesCharter() {
        CellarPlot x = with(0);
        x.image();
        Due.charter(x, "calm 1");
        x.undo();
        due("none holds", x.told(1), 10);
        due("there is one", x.count(1), 1);
        due("a FAULT", Due.charter(x, "calm"), -14);
        due("none holds still", x.told(1), 10);
        due("the second", Due.charter(x, "calm 2"), 1);
        x.image();
        due("the third", Due.charter(x, "calm 3"), 2);
        due("the fourth", Due.charter(x, "calm 4"), 3);
        x.undo();
        due("the second holds", x.told(1), 2);
        due("the fifth", Due.charter(x, "calm 5"), 4);
        due("the sixth", Due.charter(x, "calm 6"), 5);
        x.undo();
        due("the second holds again", x.told(1), 2);
        due("FULL", Due.charter(x, "calm 7"), FULL);
        x.undo();
        due("THE TEXT stays", x.count(5), 6);
        due("six", x.count(1), 6);
    }
}
