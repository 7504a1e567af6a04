/** What the tests share: answers are compared, and wrong ones are printed and counted. */
final class Check {
    static final int NONE = -1, UNKNOWN = -1000000001, OUTSIDE = -1000000002, NOT = -1000000003, FULL = -1000000004;

    /** Five troubles, two pots, two eaters: most tests begin with it. */
    static final String FIVE = "f5 2;t0 20,3,3,0,0,0;t1 9,31,0,0,0,0;t2 40,7,5,7,0,16;t3 12,0,0,0,0,0;t0 1,0,0,4,0,0;e6;e9;";

    private static int wrong;
    private static int asked;

    private Check() {
    }

    static void due(String call, int got, int want) {
        asked++;
        if (got != want) {
            wrong++;
            System.out.println(call + " answered " + got + ", due is " + want);
        }
    }

    static void holds(String what, boolean is) {
        asked++;
        if (!is) {
            wrong++;
            System.out.println("does not hold: " + what);
        }
    }

    static void feedAll(SuetTroubles x, String text) {
        for (int k = 0; k < text.length(); k++) {
            x.feed(text.charAt(k));
        }
    }

    static int read(SuetTroubles x, String text) {
        feedAll(x, text);
        return x.kitchen();
    }

    /** A new object with the kitchen of that text, which must have no fault. */
    static SuetTroubles of(String text) {
        SuetTroubles x = new SuetTroubles();
        int answer = read(x, text);
        holds("no fault in " + text, answer >= 0 && x.fault() == NONE);
        return x;
    }

    static void end() {
        System.out.println(wrong == 0 ? asked + " answers are as due" : wrong + " of " + asked + " answers are not as due");
        if (wrong != 0) {
            System.exit(1);
        }
    }
}
