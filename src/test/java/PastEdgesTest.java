/** Boundary cases of promises 15, 16, 27, 28 and 29: drift, undo, THE SEED and its DRAWS, IMAGES. */
public final class PastEdgesTest {
    private static final long TIMES = 1103515245L, MORE = 12345L, MODULUS = 1L << 31;

    public static void main(String[] args) throws ReflectiveOperationException {
        Check.all(PastEdgesTest.class);
    }

    private static long next(long seed) {
        return (seed * TIMES + MORE) % MODULUS;
    }

    private static int seedBehind(int seed, int draws) {
        long v = seed;
        for (int k = 0; k < draws; k++) {
            v = next(v);
        }
        return (int) v;
    }

    /** The least seed by which the next DRAW of 5 is that deed and the one of n that trouble. */
    private static int seedFor(int deed, int t, int n) {
        for (int seed = 0; seed < 1000000; seed++) {
            long one = next(seed);
            long two = next(one);
            if (one / 65536 % 5 == deed && two / 65536 % n == t) {
                return seed;
            }
        }
        throw new IllegalStateException("no seed");
    }

    /** One HOUR by DRAWS that falls on that deed and trouble. */
    private static int driftOn(SuetTroubles x, int deed, int t) {
        int seed = seedFor(deed, t, x.told(2));
        x.seed(seed);
        int answer = x.drift(1);
        Check.due("two draws", x.seed(0), seedBehind(seed, 2));
        return answer;
    }

    // ---- Promise 15

    /** Promise 15: "n HOURS (1 .. 60)"; no DRAW is made by a refused call. */
    static void boundsOfDrift() {
        SuetTroubles x = Check.of("f1 1;t0 1,0,0,0,0,0;");
        x.seed(3);
        for (int n : new int[] {0, -1, 61, Integer.MIN_VALUE, Integer.MAX_VALUE}) {
            Check.due("drift(" + n + ")", x.drift(n), Check.OUTSIDE);
        }
        Check.due("hours", x.told(5), 0);
        Check.due("the seed", x.seed(3), 3);
        x.drift(60);
        Check.due("hours behind drift(60)", x.told(5), 60);
        Check.due("the seed behind drift(60)", x.seed(0), seedBehind(3, 120));
        x.drift(1);
        Check.due("hours behind drift(1)", x.told(5), 61);
    }

    /** Section 3, BY DRAWS: "if there are TROUBLES": else no DRAW is made, but HOURS go. */
    static void driftWithoutATrouble() {
        SuetTroubles x = Check.of("f1 1;e1;");
        x.seed(77);
        Check.due("drift(60)", x.drift(60), 0);
        Check.due("hours", x.told(5), 60);
        Check.due("the seed", x.seed(0), 77);
    }

    /** Section 3, BY DRAWS: "on 0 it is WRAPPED" by its SHEETS, "or FOLDED in". */
    static void driftWraps() {
        SuetTroubles x = Check.of("f1 1;t0 9,31,0,0,0,0;t0 9,0,0,0,0,0;");
        driftOn(x, 0, 0);
        Check.due("wrapped", x.trouble(0, 3), 1);
        Check.due("sheets", x.told(10), 3);
        driftOn(x, 0, 1);
        Check.due("folded in", x.trouble(1, 3), 1);
        Check.due("sheets", x.told(10), 4);
    }

    /** Section 3, BY DRAWS: on 0 "if it can be": not one that is not raw. */
    static void driftWrapsOnlyRaw() {
        SuetTroubles x = Check.of("f1 1;t0 9,31,0,0,0,0;");
        x.wrap(0);
        driftOn(x, 0, 0);
        Check.due("sheets of a wrapped one", x.told(10), 3);
        x.putOn(0);
        driftOn(x, 0, 0);
        Check.due("sheets of one that is on", x.told(10), 3);
        Check.due("on yet", x.trouble(0, 3), 2);
    }

    /** Section 3, BY DRAWS: "ahead of each" HOUR: on 1 it is PUT ON and softened in that HOUR. */
    static void driftPutsOn() {
        SuetTroubles x = Check.of("f1 1;t0 9,0,0,0,0,0;");
        x.wrap(0);
        driftOn(x, 1, 0);
        Check.due("on", x.trouble(0, 3), 2);
        Check.due("hard", x.trouble(0, 1), 8);
    }

    /** Section 3, BY DRAWS: on 1 "if it can be": a raw one can't, nor one for which no POT is free. */
    static void driftPutsOnOnlyWhatCanBe() {
        SuetTroubles x = Check.of("f1 1;t0 9,0,0,0,0,0;t0 9,0,0,0,0,0;");
        driftOn(x, 1, 1);
        Check.due("raw", x.trouble(1, 3), 0);
        x.wrap(0);
        x.wrap(1);
        x.putOn(0);
        driftOn(x, 1, 1);
        Check.due("no pot is free", x.trouble(1, 3), 1);
        Check.due("on", x.told(7), 1);
    }

    /** Section 3, BY DRAWS: "on 2 TAKEN OFF, if it is ON": ahead of the HOUR, by which it is not softened. */
    static void driftTakesOff() {
        SuetTroubles x = Check.of("f1 1;t0 9,0,0,0,0,0;");
        driftOn(x, 2, 0);
        Check.due("raw", x.trouble(0, 3), 0);
        x.wrap(0);
        driftOn(x, 2, 0);
        Check.due("wrapped", x.trouble(0, 3), 1);
        x.putOn(0);
        driftOn(x, 2, 0);
        Check.due("taken off", x.trouble(0, 3), 1);
        Check.due("hard", x.trouble(0, 1), 9);
    }

    /** Section 3, BY DRAWS: "on 3 BORNE, if it can be": to the last of the STRENGTH. */
    static void driftBears() {
        SuetTroubles x = Check.of("f20 1;t0 1,3,0,0,0,0;e1;e1;");
        x.wrap(0);
        x.putOn(0);
        x.hour(1);
        Check.due("drift(1)", driftOn(x, 3, 0), 1);
        Check.due("left", x.told(11), 0);
        Check.due("borne", x.told(8), 1);
    }

    /** Section 3, BY DRAWS: on 3 not, if it is HARD yet, or too little is left. */
    static void driftBearsOnlyWhatCanBe() {
        SuetTroubles x = Check.of("f1 1;t0 2,3,0,0,0,0;e1;");
        Check.due("raw", driftOn(x, 3, 0), 0);
        x.wrap(0);
        x.putOn(0);
        Check.due("hard", driftOn(x, 3, 0), 0);
        x.hour(1);
        Check.due("too little", driftOn(x, 3, 0), 0);
        Check.due("no load", x.eater(0, 1), 0);
        Check.due("good yet", x.told(9), 1);
    }

    /** Section 3, BY DRAWS: "on 4 all are RESTED", whichever TROUBLE is drawn. */
    static void driftRests() {
        for (int t = 0; t < 2; t++) {
            SuetTroubles x = Check.of("f20 1;t0 1,7,0,0,0,0;t0 1,0,0,0,0,0;e2;e2;");
            x.wrap(0);
            x.putOn(0);
            x.hour(1);
            x.bear(0);
            Check.due("left", x.told(11), 1);
            Check.due("drift(1)", driftOn(x, 4, t), 1);
            Check.due("rested", x.told(11), 4);
        }
    }

    /** Section 3, BY DRAWS: "a DRAW of 5, of TROUBLES": of six the last can be drawn. */
    static void driftOfSix() {
        SuetTroubles x = Check.of("f1 1;" + "t0 9,0,0,0,0,0;".repeat(6));
        driftOn(x, 0, 5);
        Check.due("wrapped", x.told(6), 32);
    }

    // ---- Promise 27

    /** Promise 27: "0 .. 2147483647": below is OUTSIDE. */
    static void seedBelow() {
        SuetTroubles x = new SuetTroubles();
        x.seed(4);
        Check.due("seed(-1)", x.seed(-1), Check.OUTSIDE);
        Check.due("seed(least)", x.seed(Integer.MIN_VALUE), Check.OUTSIDE);
        Check.due("it stays", x.seed(0), 4);
    }

    /** Promise 27: "0 .. 2147483647": the least and the greatest; "what it was". */
    static void leastAndGreatestSeed() {
        SuetTroubles x = new SuetTroubles();
        Check.due("0 at first", x.seed(2147483647), 0);
        Check.due("the greatest", x.seed(0), 2147483647);
        Check.due("the least", x.seed(1), 0);
    }

    /** Section 3, THE SEED: "left over by 2 to the 31": from the least and the greatest on, never below 0. */
    static void drawsOfTheGreatestSeed() {
        for (int seed : new int[] {0, 1, 2147483646, 2147483647, 1073741824}) {
            SuetTroubles x = Check.of("f1 1;t0 9,0,0,0,0,0;");
            x.seed(seed);
            long v = seed;
            for (int k = 0; k < 100; k++) {
                x.drift(1);
                v = next(next(v));
                Check.due("seed behind " + (k + 1) + " hours from " + seed, x.seed((int) v), (int) v);
            }
        }
    }

    // ---- Promise 16

    /** Promise 16: "NOT: none": at first, when all were undone, and behind keep() and goBack(). */
    static void undoOfNothing() {
        SuetTroubles x = Check.of("f1 1;");
        Check.due("at first", x.undo(), Check.NOT);
        x.hour(1);
        Check.due("one", x.undo(), 0);
        Check.due("no more", x.undo(), Check.NOT);
        x.hour(1);
        x.keep(0);
        Check.due("behind keep()", x.undo(), Check.NOT);
        x.hour(1);
        x.goBack(0);
        Check.due("behind goBack()", x.undo(), Check.NOT);
        Check.due("hours", x.told(5), 1);
    }

    /** Section 3, UNDONE: "16 at most are kept": sixteen are, to the first. */
    static void sixteenUndone() {
        SuetTroubles x = Check.of("f1 1;");
        for (int k = 1; k <= 16; k++) {
            x.hour(1);
            Check.due("told(18)", x.told(18), k);
        }
        for (int k = 15; k >= 0; k--) {
            Check.due("undo()", x.undo(), k);
            Check.due("hours", x.told(5), k);
        }
        Check.due("no more", x.undo(), Check.NOT);
    }

    /** Section 3, UNDONE: "the oldest are lost": of seventeen the first. */
    static void seventeenUndone() {
        SuetTroubles x = Check.of("f1 1;");
        for (int k = 1; k <= 17; k++) {
            x.hour(1);
        }
        Check.due("told(18)", x.told(18), 16);
        for (int k = 15; k >= 0; k--) {
            Check.due("undo()", x.undo(), k);
            Check.due("hours", x.told(5), k + 1);
        }
        Check.due("no more", x.undo(), Check.NOT);
        Check.due("hours", x.told(5), 1);
    }

    /** Section 3, UNDONE: over its most again and again, some undone between. */
    static void undoneRoundAndRound() {
        SuetTroubles x = Check.of("f1 1;");
        int hours = 0;
        int kept = 0;
        for (int round = 0; round < 9; round++) {
            for (int k = 0; k < 13; k++) {
                x.hour(1);
                hours++;
                kept = Math.min(16, kept + 1);
            }
            for (int k = 0; k < 7; k++) {
                kept--;
                hours--;
                Check.due("undo()", x.undo(), kept);
                Check.due("hours", x.told(5), hours);
            }
        }
    }

    /** Section 3, UNDONE: each of the eight is kept, once, drift() too; undo() itself is not. */
    static void eachIsKeptOnce() {
        SuetTroubles x = Check.of("f20 1;t0 1,3,0,0,0,0;e9;");
        x.cut(0, 0);
        Check.due("cut", x.told(18), 1);
        x.wrap(0);
        Check.due("wrap", x.told(18), 2);
        x.putOn(0);
        Check.due("putOn", x.told(18), 3);
        x.hour(60);
        Check.due("hour", x.told(18), 4);
        x.takeOff(0);
        Check.due("takeOff", x.told(18), 5);
        x.bear(0);
        Check.due("bear", x.told(18), 6);
        x.rest();
        Check.due("rest", x.told(18), 7);
        x.drift(60);
        Check.due("drift", x.told(18), 8);
        Check.due("undo()", x.undo(), 7);
        Check.due("undo", x.told(18), 7);
    }

    /** Section 3, UNDONE: what changes nothing is kept, if it was not refused: rest() without LOADS. */
    static void restIsKeptWithoutLoads() {
        SuetTroubles x = Check.of("f1 1;");
        x.rest();
        Check.due("told(18)", x.told(18), 1);
        Check.due("undo()", x.undo(), 0);
    }

    /** Section 3, UNDONE: "THE SEED stays": as the DRAWS left it, and as seed() put it. */
    static void seedStaysWhenUndone() {
        SuetTroubles x = Check.of("f1 1;t0 9,0,0,0,0,0;");
        x.seed(11);
        x.drift(5);
        x.undo();
        Check.due("hours", x.told(5), 0);
        Check.due("the seed behind its draws", x.seed(12), seedBehind(11, 10));
        x.hour(1);
        x.seed(13);
        x.undo();
        Check.due("the seed that was put", x.seed(0), 13);
    }

    /** Section 3, UNDONE: "all of section 2": BUMPS and THE BOOK are not of it. */
    static void bumpsStayWhenUndone() {
        SuetTroubles x = Check.of("f1 1;t0 9,0,0,0,0,0;");
        x.hour(1);
        x.bump(0, false);
        x.write(0, 9);
        x.undo();
        Check.due("bumps", x.told(13), 1);
        Check.due("entries", x.told(17), 1);
        x.hour(1);
        x.tear();
        x.undo();
        Check.due("torn ones do not come back", x.told(13) + x.told(17), 0);
    }

    /** Section 3, UNDONE: "all of section 2 is as ahead of it", each of it by a drift() that changed it all. */
    static void driftUndone() {
        SuetTroubles x = Check.of(Check.FIVE);
        x.wrap(0);
        x.putOn(0);
        x.wrap(4);
        x.putOn(4);
        x.hour(4);
        x.bear(0);
        int[] ahead = Picture.of(x);
        x.drift(60);
        x.undo();
        int[] behind = Picture.of(x);
        for (int k = 0; k < ahead.length; k++) {
            Check.due("answer " + k + " of the picture", behind[k], ahead[k]);
        }
    }

    // ---- Promises 28, 29

    /** Promise 28: "UNKNOWN": there are IMAGES 0 and 1 alone. */
    static void keepUnknown() {
        SuetTroubles x = Check.of("f1 1;");
        x.hour(1);
        for (int i : new int[] {-1, 2, Integer.MIN_VALUE, Integer.MAX_VALUE}) {
            Check.due("keep(" + i + ")", x.keep(i), Check.UNKNOWN);
        }
        Check.due("what can be undone stays", x.told(18), 1);
        Check.due("keep(0)", x.keep(0), 1);
        Check.due("keep(1)", x.keep(1), 1);
    }

    /** Promise 29: "UNKNOWN": there are IMAGES 0 and 1 alone. */
    static void goBackUnknown() {
        SuetTroubles x = Check.of("f1 1;");
        x.keep(0);
        x.keep(1);
        x.hour(1);
        for (int i : new int[] {-1, 2, Integer.MIN_VALUE, Integer.MAX_VALUE}) {
            Check.due("goBack(" + i + ")", x.goBack(i), Check.UNKNOWN);
        }
        Check.due("hours", x.told(5), 1);
        Check.due("what can be undone stays", x.told(18), 1);
    }

    /** Promise 29: "NOT: it was not kept", though the other one was; nothing changes. */
    static void goBackToWhatWasNotKept() {
        for (int i = 0; i < 2; i++) {
            SuetTroubles x = Check.of("f1 1;");
            x.keep(1 - i);
            x.hour(1);
            x.seed(4);
            Check.due("goBack(" + i + ")", x.goBack(i), Check.NOT);
            Check.due("hours", x.told(5), 1);
            Check.due("the seed", x.seed(0), 4);
            Check.due("told(18)", x.told(18), 1);
            Check.due("the other", x.goBack(1 - i), 1);
        }
    }

    /** Promise 28: "(nothing can be undone then)". */
    static void nothingUndoneBehindKeep() {
        SuetTroubles x = Check.of("f1 1;");
        x.hour(1);
        x.keep(0);
        Check.due("told(18)", x.told(18), 0);
        Check.due("undo()", x.undo(), Check.NOT);
        Check.due("hours", x.told(5), 1);
    }

    /** Promise 29: "(nothing can be undone then)". */
    static void nothingUndoneBehindGoBack() {
        SuetTroubles x = Check.of("f1 1;");
        x.keep(0);
        x.hour(1);
        x.goBack(0);
        Check.due("told(18)", x.told(18), 0);
        Check.due("undo()", x.undo(), Check.NOT);
        Check.due("hours", x.told(5), 0);
    }

    /** Promise 28: an IMAGE kept again is the later one; the other is not touched. */
    static void keepAgain() {
        SuetTroubles x = Check.of("f1 1;");
        x.keep(0);
        x.keep(1);
        x.hour(5);
        x.keep(0);
        x.hour(2);
        x.goBack(0);
        Check.due("image 0", x.told(5), 5);
        x.goBack(1);
        Check.due("image 1", x.told(5), 0);
    }

    /** Promise 29: an IMAGE is not used up, nor changed by what is done from it. */
    static void goBackAgain() {
        SuetTroubles x = Check.of(Check.FIVE);
        x.wrap(0);
        x.putOn(0);
        x.seed(21);
        x.keep(1);
        int[] kept = Picture.of(x);
        for (int again = 0; again < 2; again++) {
            x.drift(60);
            x.cut(2, 0);
            Check.due("goBack(1)", x.goBack(1), 1);
            int[] now = Picture.of(x);
            for (int k = 0; k < kept.length; k++) {
                Check.due("answer " + k + " of the picture", now[k], kept[k]);
            }
            Check.due("the seed", x.seed(21), 21);
        }
    }

    /** Section 3, IMAGES: "keep all of section 2, THE SEED", not BUMPS nor THE BOOK. */
    static void imagesKeepNoBumps() {
        SuetTroubles x = Check.of("f1 1;t0 9,0,0,0,0,0;");
        x.bump(0, false);
        x.write(0, 9);
        x.keep(0);
        x.tear();
        x.goBack(0);
        Check.due("torn ones do not come back", x.told(13) + x.told(17), 0);
        x.bump(1, false);
        x.write(0, 8);
        x.goBack(0);
        Check.due("later ones stay", x.told(13) + x.told(17), 2);
    }

    /** Section 3, IMAGES: THE TEXT is not of it. */
    static void imagesKeepNoText() {
        SuetTroubles x = Check.of("f1 1;");
        x.keep(0);
        x.feed('f');
        x.goBack(0);
        Check.due("letters", x.told(4), 1);
    }

    /** Promises 28, 29 without a KITCHEN: THE SEED is kept, and there is none yet. */
    static void imagesWithoutAKitchen() {
        SuetTroubles x = new SuetTroubles();
        x.seed(8);
        Check.due("keep(1)", x.keep(1), 1);
        x.seed(9);
        Check.due("goBack(1)", x.goBack(1), 1);
        Check.due("the seed", x.seed(0), 8);
        Check.due("rest()", x.rest(), Check.NOT);
    }

    /** Promises 11, 29: HOURS above 9000 are left by an IMAGE of earlier ones. */
    static void goBackFromTheLastHour() {
        SuetTroubles x = Check.of("f1 1;");
        x.keep(0);
        for (int k = 0; k < 151; k++) {
            x.hour(60);
        }
        Check.due("full", x.hour(1), Check.FULL);
        x.goBack(0);
        Check.due("hour(1)", x.hour(1), 0);
        Check.due("hours", x.told(5), 1);
    }
}
