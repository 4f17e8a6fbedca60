/** Counts and prints the calls whose answer is not the one that is due. */
final class Due {
    private static int wrong = 0;
    private static int looked = 0;

    private Due() {
    }

    static void due(String call, long got, long want) {
        looked++;
        if (got != want) {
            wrong++;
            if (wrong <= 50) {
                System.out.println(call + " answered " + got + ", due is " + want);
            }
        }
    }

    /** Feeds a whole text; the last answer. */
    static int feed(CellarPlot x, String text) {
        int answer = 0;
        for (char sign : text.toCharArray()) {
            answer = x.feed(sign);
        }
        return answer;
    }

    /** Feeds a whole text and makes a CHARTER of it. */
    static int charter(CellarPlot x, String text) {
        feed(x, text);
        return x.charter();
    }

    static void end() {
        System.out.println(wrong == 0 ? looked + " answers are as due" : wrong + " of " + looked + " answers are not as due");
        if (wrong != 0) {
            System.exit(1);
        }
    }
}
