/** Boundary cases of promises 23 to 26 and of BUMPS, WITHIN, WEAVE and THE BOOK in section 3 of the terms. */
public final class FeltEdgesTest {
    public static void main(String[] args) throws ReflectiveOperationException {
        Check.all(FeltEdgesTest.class);
    }

    private static SuetTroubles shaped(String rows) {
        return Check.of("f20 1;t0 1," + rows + ";e30;");
    }

    private static void within(SuetTroubles x, int set, int pairs, int weave) {
        Check.due("within", x.told(14), set);
        Check.due("pairs", x.told(15), pairs);
        Check.due("weave", x.told(16), weave);
    }

    // ---- Promise 23

    /** Promise 23: "a CELL 0 .. 24". */
    static void boundsOfBump() {
        SuetTroubles x = Check.of(Check.FIVE);
        for (int cell : new int[] {-1, 25, 32, Integer.MIN_VALUE, Integer.MAX_VALUE}) {
            Check.due("bump(" + cell + ", true)", x.bump(cell, true), Check.OUTSIDE);
            Check.due("bump(" + cell + ", false)", x.bump(cell, false), Check.OUTSIDE);
        }
        Check.due("no bumps", x.told(13), 0);
        Check.due("all fit yet", x.told(15), 56);
        Check.due("bump(0, true)", x.bump(0, true), 1);
        Check.due("bump(24, true)", x.bump(24, true), 2);
    }

    /** Promise 23: "FULL (6)": the sixth is taken, the seventh is not. */
    static void bumpsAtTheirMost() {
        SuetTroubles x = shaped("1,0,0,0,0");
        for (int k = 1; k <= 6; k++) {
            Check.due("bump(" + k + ", false)", x.bump(k, false), k);
        }
        Check.due("pairs", x.told(15), 19);
        Check.due("a seventh", x.bump(7, false), Check.FULL);
        Check.due("one of the six again", x.bump(1, false), Check.FULL);
        Check.due("pairs yet", x.told(15), 19);
        Check.due("bumps", x.told(13), 6);
    }

    /** Promise 23: the same BUMP again is one more, though it tells nothing new. */
    static void sameBumpAgain() {
        SuetTroubles x = shaped("1,0,0,0,0");
        x.bump(3, true);
        Check.due("again", x.bump(3, true), 2);
        Check.due("pairs", x.told(15), 1);
    }

    /** Promise 23 without a KITCHEN: it is felt, nothing is WITHIN. */
    static void bumpWithoutAKitchen() {
        SuetTroubles x = new SuetTroubles();
        Check.due("bump(0, false)", x.bump(0, false), 1);
        within(x, 0, 0, Check.NONE);
    }

    /** Section 3, WITHIN: no BUMPS at all: every TROUBLE by every move fits. */
    static void withinWithoutBumps() {
        SuetTroubles x = Check.of("f1 1;t0 1,31,31,31,31,31;t0 1,0,0,0,0,0;t0 1,1,0,0,0,0;t0 1,0,0,0,0,16;");
        Check.due("within", x.told(14), 15);
        Check.due("pairs", x.told(15), 1 + 25 + 25 + 1);
    }

    /** Section 3, WITHIN: a CELL felt full and not full: nothing fits, be it without a CELL. */
    static void bumpsAgainstOneAnother() {
        SuetTroubles x = Check.of(Check.FIVE);
        x.bump(12, false);
        x.bump(12, true);
        within(x, 0, 0, Check.NONE);
    }

    /** Section 3, WITHIN: "one without a CELL by all 25 moves", which no full CELL fits. */
    static void withinWithoutACell() {
        SuetTroubles x = shaped("0,0,0,0,0");
        within(x, 1, 25, Check.NONE);
        x.bump(24, false);
        within(x, 1, 25, Check.NONE);
        x.bump(0, true);
        within(x, 0, 0, Check.NONE);
    }

    /** Section 3, WITHIN: moved "down and .. to the right" alone: what lies lower right can't come back. */
    static void movesDownAndRightAlone() {
        SuetTroubles x = shaped("0,0,0,0,16");
        Check.due("pairs", x.told(15), 1);
        x.bump(23, true);
        within(x, 0, 0, Check.NONE);
        SuetTroubles y = shaped("0,2,0,0,0");
        Check.due("pairs", y.told(15), 16);
        y.bump(1, true);
        Check.due("not up", y.told(15), 0);
        y.tear();
        y.bump(5, true);
        Check.due("not to the left", y.told(15), 0);
    }

    /** Section 3, WITHIN: "0 .. 4 each": a CELL in the upper left can come to the last one. */
    static void movesByFour() {
        SuetTroubles x = shaped("1,0,0,0,0");
        x.bump(24, true);
        Check.due("the last cell", x.told(15), 1);
        x.tear();
        x.bump(4, true);
        Check.due("the last column", x.told(15), 1);
        x.tear();
        x.bump(20, true);
        Check.due("the last row", x.told(15), 1);
    }

    /** Section 3, WITHIN: "no CELL beyond THE BOARD": neither below it nor round its side into the next ROW. */
    static void noCellBeyondTheBoard() {
        SuetTroubles x = shaped("24,0,0,0,0");
        Check.due("pairs", x.told(15), 5);
        x.bump(5, true);
        Check.due("not round the side", x.told(15), 0);
        SuetTroubles y = shaped("1,0,0,1,0");
        Check.due("pairs", y.told(15), 2 * 5);
        y.bump(10, true);
        Check.due("not below", y.told(15), 0);
    }

    /** Section 3, WITHIN: "whose SHAPE, as it is": cut, and of a borne one too. */
    static void withinAsItIs() {
        SuetTroubles x = shaped("3,0,0,0,0");
        Check.due("pairs", x.told(15), 20);
        x.cut(0, 1);
        Check.due("pairs when cut", x.told(15), 25);
        x.wrap(0);
        x.putOn(0);
        x.hour(1);
        x.bear(0);
        Check.due("within when borne", x.told(14), 1);
        Check.due("pairs when borne", x.told(15), 25);
    }

    /** Section 3, WEAVE: "NONE: none parts them": no pair, one pair, pairs that are alike. */
    static void weaveOfNone() {
        SuetTroubles x = shaped("31,31,31,31,31");
        within(x, 1, 1, Check.NONE);
        x.bump(0, false);
        within(x, 0, 0, Check.NONE);
        SuetTroubles y = Check.of("f1 1;t0 1,31,31,31,31,31;t3 9,31,31,31,31,31;");
        within(y, 3, 2, Check.NONE);
    }

    /** Section 3, WEAVE: "of like ones the least", and a CELL that parts nothing is passed by. */
    static void weaveOfLikeOnes() {
        SuetTroubles x = shaped("1,0,0,0,0");
        within(x, 1, 25, 0);
        x.bump(0, false);
        within(x, 1, 24, 1);
    }

    /** Section 3, WEAVE: by the BUMPS and SHAPES that there are when it is asked, whatever was asked ahead of it. */
    static void weaveAskedAlone() {
        SuetTroubles x = Check.of("f1 1;t0 1,1,0,0,0,0;t0 1,31,31,31,31,31;");
        Check.due("weave at first", x.told(16), 0);
        x.bump(0, true);
        Check.due("weave behind a bump", x.told(16), 1);
        x.cut(1, 1);
        Check.due("weave behind a cut", x.told(16), 2);
        x.bump(24, false);
        Check.due("weave of one pair", x.told(16), Check.NONE);
        x.tear();
        Check.due("weave behind tear()", x.told(16), 0);
    }

    /** Section 3, WEAVE: the last CELL of THE BOARD, when that alone parts them. */
    static void weaveByTheLastCell() {
        SuetTroubles x = Check.of("f1 1;t0 1,31,31,31,31,31;t0 1,31,31,31,31,15;");
        within(x, 3, 2, 24);
    }

    /** Section 3, WEAVE: "the greatest part that is alike is least": halves are better than one of all. */
    static void weaveByHalves() {
        SuetTroubles x = Check.of("f1 1;t0 1,17,0,0,0,1;t0 1,19,0,0,0,1;t0 1,23,0,0,0,1;t0 1,31,0,0,0,1;");
        within(x, 15, 4, 2);
    }

    // ---- Promise 24

    /** Promise 24: "UNKNOWN". */
    static void writeUnknown() {
        SuetTroubles x = Check.of(Check.FIVE);
        Check.due("write(-1, 0)", x.write(-1, 0), Check.UNKNOWN);
        Check.due("write(5, 0)", x.write(5, 0), Check.UNKNOWN);
        Check.due("entries", x.told(17), 0);
    }

    /** Promise 24: "(0 .. 200)". */
    static void boundsOfWrite() {
        SuetTroubles x = Check.of(Check.FIVE);
        for (int hard : new int[] {-1, 201, Integer.MIN_VALUE, Integer.MAX_VALUE}) {
            Check.due("write(0, " + hard + ")", x.write(0, hard), Check.OUTSIDE);
        }
        Check.due("write(0, 0)", x.write(0, 0), 1);
        Check.due("write(0, 200)", x.write(0, 200), 2);
    }

    /** Promise 24: "FULL (15)": the fifteenth is taken, the sixteenth is not, and would have been WRONG. */
    static void bookAtItsMost() {
        SuetTroubles x = Check.of(Check.FIVE);
        for (int k = 1; k <= 15; k++) {
            Check.due("write(0, 20)", x.write(0, 20), k);
        }
        Check.due("a sixteenth", x.write(0, 7), Check.FULL);
        Check.due("entries", x.told(17), 15);
        Check.due("judge()", x.judge(), Check.NONE);
    }

    // ---- Promise 25

    /** Promise 25: "how much both had": nothing, and the most of both; then all can come again. */
    static void tearNothingAndAll() {
        SuetTroubles x = Check.of(Check.FIVE);
        Check.due("nothing", x.tear(), 0);
        for (int k = 0; k < 15; k++) {
            x.write(0, 1);
            x.bump(7, k % 2 == 0);
        }
        Check.due("the most", x.tear(), 21);
        Check.due("again nothing", x.tear(), 0);
        Check.due("pairs", x.told(15), 56);
        Check.due("judge()", x.judge(), Check.NONE);
        Check.due("bump again", x.bump(0, false), 1);
        Check.due("write again", x.write(0, 20), 1);
        Check.due("what was torn is not wrong", x.judge(), Check.NONE);
    }

    /** Promise 25 of one of both alone. */
    static void tearOne() {
        SuetTroubles x = Check.of(Check.FIVE);
        x.bump(0, false);
        Check.due("bumps alone", x.tear(), 1);
        x.write(0, 1);
        x.write(0, 2);
        Check.due("the book alone", x.tear(), 2);
    }

    // ---- Promise 26

    /** Promise 26: "NONE": THE BOOK is empty, or all of it is so. */
    static void judgeNone() {
        SuetTroubles x = Check.of(Check.FIVE);
        Check.due("empty", x.judge(), Check.NONE);
        x.write(0, 20);
        x.write(4, 1);
        Check.due("all is so", x.judge(), Check.NONE);
    }

    /** Section 3, WRONG: "the first that is otherwise": the first entry, and the last of fifteen. */
    static void judgeFirstAndLast() {
        SuetTroubles x = Check.of(Check.FIVE);
        x.write(4, 2);
        x.write(3, 2);
        Check.due("the first entry", x.judge(), 0);
        x.tear();
        for (int k = 0; k < 14; k++) {
            x.write(0, 20);
        }
        x.write(0, 21);
        Check.due("the last of fifteen", x.judge(), 14);
    }

    /** Section 3, WRONG: by one more and by one less. */
    static void judgeByOne() {
        for (int off = -1; off <= 1; off += 2) {
            SuetTroubles x = Check.of(Check.FIVE);
            x.write(1, 9 + off);
            Check.due("off by " + off, x.judge(), 0);
        }
    }

    /** Section 3, WRONG: "now": as HARD as it has become, to the least of all. */
    static void judgeNow() {
        SuetTroubles x = shaped("1,0,0,0,0");
        x.write(0, 1);
        x.write(0, 0);
        Check.due("hard by 1", x.judge(), 1);
        x.wrap(0);
        x.putOn(0);
        x.hour(1);
        Check.due("hard by 0", x.judge(), 0);
        x.bear(0);
        Check.due("borne", x.judge(), 0);
    }
}
