/** Boundary cases of promises 17 to 22 and of section 3 of the terms: what is tried. */
public final class TriedEdgesTest {
    public static void main(String[] args) throws ReflectiveOperationException {
        Check.all(TriedEdgesTest.class);
    }

    private static SuetTroubles shaped(String rows) {
        return Check.of("f1 1;t0 1," + rows + ";");
    }

    private static void wrapOf(String rows, int count, int first) {
        SuetTroubles x = shaped(rows);
        Check.due("how many for " + rows, x.toWrap(0, 0), count);
        Check.due("the first for " + rows, x.toWrap(0, 1), first);
    }

    private static void sideOf(String rows, int side) {
        Check.due("side for " + rows, shaped(rows).toWrap(0, 2), side);
    }

    /** A kitchen, all of whose troubles are WRAPPED. */
    private static SuetTroubles wrapped(String text) {
        SuetTroubles x = Check.of(text);
        for (int t = 0; t < x.told(2); t++) {
            x.wrap(t);
        }
        return x;
    }

    // ---- Promise 17

    /** Promise 17: "UNKNOWN". */
    static void toWrapUnknown() {
        SuetTroubles x = Check.of(Check.FIVE);
        for (int t : new int[] {-1, 5, Integer.MIN_VALUE, Integer.MAX_VALUE}) {
            Check.due("toWrap(" + t + ", 0)", x.toWrap(t, 0), Check.UNKNOWN);
        }
    }

    /** Promise 17: "OUTSIDE": what below 0 and above 2, with a SHAPE and without. */
    static void toWrapOutside() {
        SuetTroubles x = Check.of(Check.FIVE);
        for (int what : new int[] {-1, 3, Integer.MIN_VALUE, Integer.MAX_VALUE}) {
            Check.due("toWrap(0, " + what + ")", x.toWrap(0, what), Check.OUTSIDE);
            Check.due("toWrap(3, " + what + ")", x.toWrap(3, what), Check.OUTSIDE);
        }
    }

    /** Section 3, WRAP: "NONE: it has no CELL", for all three. */
    static void wrapOfNoShape() {
        SuetTroubles x = shaped("0,0,0,0,0");
        for (int what = 0; what <= 2; what++) {
            Check.due("toWrap(0, " + what + ")", x.toWrap(0, what), Check.NONE);
        }
    }

    /** Section 3, WRAP: SHEETS are "on THE BOARD": in the corners no SHEET hangs over it. */
    static void wrapOfCorners() {
        wrapOf("1,0,0,0,0", 1, 0);
        wrapOf("16,0,0,0,0", 1, 3);
        wrapOf("0,0,0,0,1", 1, 15);
        wrapOf("0,0,0,0,16", 1, 18);
        wrapOf("0,0,0,24,24", 1, 18);
        wrapOf("0,0,0,31,31", 3, 15);
    }

    /** Section 3, WRAP: SHEETS may cover "CELLS beside it": the least of four for one CELL. */
    static void wrapCoversCellsBeside() {
        wrapOf("0,0,4,0,0", 1, 6);
        wrapOf("1,2,0,0,0", 1, 0);
    }

    /** Section 3, WRAP: SHEETS "may cover one another": nine for THE BOARD, whose side is odd. */
    static void wrapCoversTwice() {
        wrapOf("31,31,31,31,31", 9, 0);
        wrapOf("31,31,0,0,0", 3, 0);
        wrapOf("7,7,7,0,0", 4, 0);
    }

    /** Section 3, WRAP: the first is of a row of the fewest, though a lesser SHEET covers some of it. */
    static void wrapFirstOfTheFewest() {
        wrapOf("6,0,0,0,0", 1, 1);
        wrapOf("0,0,0,0,12", 1, 17);
        wrapOf("0,6,6,0,0", 1, 6);
    }

    /** Section 3, WRAP: "of such rows .. the least one", where SHEETS further on can make room for it. */
    static void wrapFirstOfLikeRows() {
        wrapOf("0,0,14,0,0", 2, 5);
        wrapOf("0,14,14,14,0", 4, 0);
        wrapOf("8,0,8,0,8", 3, 2);
    }

    /** Section 3, WRAP: "side by side" over THE BOARD's end is no square: CELL 4 and CELL 5 need two SHEETS. */
    static void wrapDoesNotGoRoundTheSide() {
        wrapOf("16,1,0,0,0", 2, 0);
        wrapOf("16,16,1,1,0", 2, 3);
    }

    /** Section 3, WRAP: the most SHEETS that single CELLS need. */
    static void wrapOfSingleCells() {
        wrapOf("21,0,21,0,21", 9, 0);
        wrapOf("21,10,21,10,21", 9, 0);
    }

    /** Section 3, WRAP: "the least side (1 .. 5) of one square that covers all of it". */
    static void sides() {
        sideOf("0,0,0,0,16", 1);
        sideOf("0,0,0,8,16", 2);
        sideOf("0,0,0,0,24", 2);
        sideOf("1,0,1,0,0", 3);
        sideOf("0,5,0,0,0", 3);
        sideOf("0,2,2,2,2", 4);
        sideOf("0,0,30,0,0", 4);
        sideOf("17,0,0,0,0", 5);
        sideOf("1,0,0,0,1", 5);
        sideOf("31,31,31,31,31", 5);
    }

    /** Section 3, WRAP is of the SHAPE as it is: cut, and in every stage. */
    static void wrapOfACutShape() {
        SuetTroubles x = Check.of("f1 1;t0 1,3,0,0,0,16;e9;");
        Check.due("whole", x.toWrap(0, 0), 2);
        x.cut(0, 24);
        Check.due("cut", x.toWrap(0, 0), 1);
        Check.due("its side", x.toWrap(0, 2), 2);
        x.wrap(0);
        x.putOn(0);
        x.hour(1);
        x.bear(0);
        Check.due("borne", x.toWrap(0, 0), 1);
    }

    // ---- Promise 18

    /** Promise 18: "UNKNOWN". */
    static void softUnknown() {
        SuetTroubles x = Check.of(Check.FIVE);
        Check.due("soft(-1, 0)", x.soft(-1, 0), Check.UNKNOWN);
        Check.due("soft(5, 0)", x.soft(5, 0), Check.UNKNOWN);
    }

    /** Promise 18, section 3: "n HOURS (0 .. 500)". */
    static void boundsOfSoft() {
        SuetTroubles x = Check.of("f1 1;t0 200,1,0,0,0,0;");
        for (int n : new int[] {-1, 501, Integer.MIN_VALUE, Integer.MAX_VALUE}) {
            Check.due("soft(0, " + n + ")", x.soft(0, n), Check.OUTSIDE);
        }
        Check.due("soft(0, 0)", x.soft(0, 0), 200);
        Check.due("soft(0, 199)", x.soft(0, 199), 1);
        Check.due("soft(0, 200)", x.soft(0, 200), 0);
        Check.due("soft(0, 500)", x.soft(0, 500), 0);
    }

    /** Section 3, SOFT: "if it is ON all the time, from now", be it raw; an absence by the HOURS that there are. */
    static void softFromNow() {
        SuetTroubles x = Check.of("f5 1;t3 12,1,0,0,0,0;t0 12,1,0,0,0,0;");
        Check.due("absence, one hour from 0", x.soft(0, 1), 12);
        Check.due("absence, two hours from 0", x.soft(0, 2), 7);
        x.hour(1);
        Check.due("absence, one hour from 1", x.soft(0, 1), 7);
        Check.due("absence, two hours from 1", x.soft(0, 2), 7);
        Check.due("absence, three hours from 1", x.soft(0, 3), 2);
        Check.due("raw", x.soft(1, 2), 2);
        x.wrap(1);
        x.putOn(1);
        x.hour(1);
        Check.due("as hard as it is", x.soft(1, 0), 7);
        Check.due("from there", x.soft(1, 1), 2);
    }

    /** Section 3, SOFT: what is never softened is as HARD behind 500 HOURS. */
    static void neverSoft() {
        SuetTroubles x = Check.of("f1 1;t1 200,1,0,0,0,0;t2 200,31,31,31,31,31;");
        Check.due("old", x.soft(0, 500), 200);
        Check.due("war", x.soft(1, 500), 200);
    }

    // ---- Promise 19

    /** Promise 19: "UNKNOWN". */
    static void whenUnknown() {
        SuetTroubles x = Check.of(Check.FIVE);
        Check.due("when(-1)", x.when(-1), Check.UNKNOWN);
        Check.due("when(5)", x.when(5), Check.UNKNOWN);
    }

    /** Section 3, WHEN: "GOOD first (0 .. 500)": 0, when it is HARD by 0. */
    static void whenGoodNow() {
        SuetTroubles x = Check.of("f1 1;t0 1,1,0,0,0,0;e1;");
        Check.due("raw", x.when(0), 1);
        x.wrap(0);
        x.putOn(0);
        x.hour(1);
        Check.due("on", x.when(0), 0);
        x.takeOff(0);
        Check.due("wrapped", x.when(0), 0);
        x.bear(0);
        Check.due("borne", x.when(0), 0);
    }

    /** Section 3, WHEN: the longest that there can be, by an absence, from an even and an odd HOUR. */
    static void whenLatest() {
        SuetTroubles x = Check.of("f1 1;t3 200,1,0,0,0,0;t0 200,1,0,0,0,0;");
        Check.due("absence", x.when(0), 400);
        Check.due("plain", x.when(1), 200);
        for (int hours = 1; hours <= 5; hours++) {
            x.hour(1);
            Check.due("absence from hour " + hours, x.when(0), hours % 2 == 1 ? 399 : 400);
        }
    }

    /** Section 3, WHEN: HARD that H does not divide needs one HOUR more. */
    static void whenRest() {
        SuetTroubles x = Check.of("f7 1;t0 7,1,0,0,0,0;t0 8,1,0,0,0,0;t0 6,1,0,0,0,0;");
        Check.due("seven", x.when(0), 1);
        Check.due("eight", x.when(1), 2);
        Check.due("six", x.when(2), 1);
    }

    /** Section 3, WHEN: "NONE": never softened. */
    static void whenNever() {
        SuetTroubles x = Check.of("f1 1;t1 1,1,0,0,0,0;t2 1,31,0,0,0,0;");
        Check.due("old", x.when(0), Check.NONE);
        Check.due("war", x.when(1), Check.NONE);
        x.cut(1, 0);
        Check.due("war that is cut", x.when(1), 1);
    }

    // ---- Promise 20

    /** Promise 20: "UNKNOWN": bits of TROUBLES that there are not, the sign's bit too. */
    static void orderUnknown() {
        SuetTroubles x = wrapped(Check.FIVE);
        for (int set : new int[] {32, 33, 64, 1 << 30, -1, Integer.MIN_VALUE, Integer.MAX_VALUE}) {
            Check.due("order(" + set + ", 0)", x.order(set, 0), Check.UNKNOWN);
        }
    }

    /** Promise 20: "OUTSIDE": what below 0 and above 1, for nobody too. */
    static void orderOutside() {
        SuetTroubles x = wrapped(Check.FIVE);
        for (int what : new int[] {-1, 2, Integer.MIN_VALUE, Integer.MAX_VALUE}) {
            Check.due("order(1, " + what + ")", x.order(1, what), Check.OUTSIDE);
            Check.due("order(0, " + what + ")", x.order(0, what), Check.OUTSIDE);
        }
    }

    /** Promise 20: "NOT: one is neither WRAPPED nor ON": a raw one, a borne one, among others. */
    static void orderOnlyWrappedOrOn() {
        SuetTroubles x = Check.of("f1 1;t0 1,1,0,0,0,0;t0 1,1,0,0,0,0;t0 1,1,0,0,0,0;e9;");
        x.wrap(0);
        x.wrap(1);
        Check.due("with a raw one", x.order(5, 0), Check.NOT);
        x.putOn(1);
        Check.due("wrapped and on", x.order(3, 0), 3);
        x.hour(1);
        x.bear(1);
        Check.due("with a borne one", x.order(3, 0), Check.NOT);
        Check.due("without it", x.order(1, 0), 1);
    }

    /** Promise 20: "(0: nobody)": the SET of nobody has the sum 0 and the figures 0. */
    static void orderOfNobody() {
        SuetTroubles x = Check.of(Check.FIVE);
        Check.due("the sum", x.order(0, 0), 0);
        Check.due("the figures", x.order(0, 1), 0);
    }

    /** Section 3, ORDER: "NONE: one is not in 500 HOURS of its own", for both; others do not count. */
    static void orderNever() {
        SuetTroubles x = wrapped("f1 1;t0 1,1,0,0,0,0;t1 1,1,0,0,0,0;");
        Check.due("the sum", x.order(3, 0), Check.NONE);
        Check.due("the figures", x.order(3, 1), Check.NONE);
        Check.due("it alone", x.order(2, 0), Check.NONE);
        Check.due("the other", x.order(1, 1), 1);
    }

    /** Section 3, ORDER: one that is never GOOD leaves nothing behind for those that are. */
    static void orderBehindNever() {
        for (int never = 0; never < 6; never++) {
            StringBuilder text = new StringBuilder("f1 1;");
            for (int t = 0; t < 6; t++) {
                text.append(t == never ? "t1 1,0,0,0,0,0;" : "t0 1,0,0,0,0,0;");
            }
            SuetTroubles x = wrapped(text.toString());
            Check.due("all", x.order(63, 0), Check.NONE);
            Check.due("it alone", x.order(1 << never, 1), Check.NONE);
            for (int t = 0; t < 6; t++) {
                if (t != never) {
                    Check.due("the sum of " + t, x.order(1 << t, 0), 1);
                    Check.due("the figure of " + t, x.order(1 << t, 1), t + 1);
                }
            }
            Check.due("all the others", x.order(63 & ~(1 << never), 0), 15);
        }
    }

    /** Section 3, ORDER: "500 HOURS of its own": all together may be far more. */
    static void orderAbove500Together() {
        SuetTroubles x = wrapped("f1 1;" + "t3 200,0,0,0,0,0;".repeat(6));
        Check.due("the sum", x.order(63, 0), 400 * (1 + 2 + 3 + 4 + 5 + 6));
        Check.due("the figures", x.order(63, 1), 123456);
    }

    /** Section 3, ORDER: "one POT alone", though there are three. */
    static void orderInOnePot() {
        SuetTroubles x = wrapped("f1 3;t0 4,1,0,0,0,0;t0 4,1,0,0,0,0;t0 4,1,0,0,0,0;");
        x.putOn(0);
        x.putOn(1);
        x.putOn(2);
        Check.due("the sum", x.order(7, 0), 4 + 8 + 12);
    }

    /** Section 3, ORDER: "of like ones the least (as a number of figures, each 1 more than the TROUBLE)". */
    static void orderOfLikeOnes() {
        SuetTroubles x = wrapped("f1 1;" + "t0 4,0,0,0,0,0;".repeat(6));
        Check.due("all like", x.order(63, 1), 123456);
        Check.due("some", x.order(42, 1), 246);
        SuetTroubles y = wrapped("f1 1;t0 6,0,0,0,0,0;t0 5,0,0,0,0,0;t0 4,0,0,0,0,0;t0 3,0,0,0,0,0;t0 2,0,0,0,0,0;t0 1,0,0,0,0,0;");
        Check.due("falling", y.order(63, 1), 654321);
        Check.due("their sum", y.order(63, 0), 1 + 3 + 6 + 10 + 15 + 21);
    }

    /** Section 3, ORDER: one that is GOOD already needs no HOUR. */
    static void orderOfGoodOnes() {
        SuetTroubles x = wrapped("f1 1;t0 2,0,0,0,0,0;t0 1,0,0,0,0,0;");
        x.putOn(1);
        x.hour(1);
        Check.due("it alone", x.order(2, 0), 0);
        Check.due("its figure", x.order(2, 1), 2);
        Check.due("both", x.order(3, 0), 2);
    }

    /** Section 3, ORDER: an absence by the HOURS at which it comes ON, from an even and an odd HOUR. */
    static void orderOfAbsences() {
        SuetTroubles x = wrapped("f1 1;t3 1,0,0,0,0,0;t0 1,0,0,0,0,0;");
        Check.due("from 0: plain first", x.order(3, 1), 21);
        Check.due("its sum", x.order(3, 0), 1 + 2);
        x.hour(1);
        Check.due("from 1: absence first", x.order(3, 1), 12);
        Check.due("its sum", x.order(3, 0), 1 + 2);
    }

    // ---- Promise 21

    /** Promise 21: "UNKNOWN". */
    static void halvesUnknown() {
        SuetTroubles x = Check.of(Check.FIVE);
        Check.due("halves(-1, 0)", x.halves(-1, 0), Check.UNKNOWN);
        Check.due("halves(5, 0)", x.halves(5, 0), Check.UNKNOWN);
    }

    /** Promise 21: "OUTSIDE": what below 0 and above 1, with a SHAPE and without. */
    static void halvesOutside() {
        SuetTroubles x = Check.of(Check.FIVE);
        for (int what : new int[] {-1, 2, Integer.MIN_VALUE, Integer.MAX_VALUE}) {
            Check.due("halves(0, " + what + ")", x.halves(0, what), Check.OUTSIDE);
            Check.due("halves(3, " + what + ")", x.halves(3, what), Check.OUTSIDE);
        }
    }

    /** Promise 21: "NONE: it has no SHAPE", for both. */
    static void halvesOfNoShape() {
        SuetTroubles x = shaped("0,0,0,0,0");
        Check.due("the line", x.halves(0, 0), Check.NONE);
        Check.due("how many", x.halves(0, 1), Check.NONE);
    }

    private static void halved(String rows, int line, int cells) {
        SuetTroubles x = shaped(rows);
        Check.due("line of " + rows, x.halves(0, 0), line);
        Check.due("cells of " + rows, x.halves(0, 1), cells);
    }

    /** Section 3, HALVES: "1 .. 4: ahead of that ROW": each of the four, the last too. */
    static void everyRowLine() {
        halved("1,1,0,0,0", 1, 1);
        halved("0,1,1,0,0", 2, 1);
        halved("0,0,1,1,0", 3, 1);
        halved("0,0,0,1,1", 4, 1);
    }

    /** Section 3, HALVES: "11 .. 14: ahead of that COLUMN": each of the four, the last too. */
    static void everyColumnLine() {
        halved("3,0,0,0,0", 11, 1);
        halved("6,0,0,0,0", 12, 1);
        halved("12,0,0,0,0", 13, 1);
        halved("0,0,0,0,24", 14, 1);
    }

    /** Section 3, HALVES: "of like ones the least", ROW lines ahead of COLUMN lines. */
    static void halvesOfLikeOnes() {
        halved("1,0,0,0,1", 1, 1);
        halved("17,0,0,0,0", 11, 1);
        halved("1,0,0,0,16", 1, 1);
        halved("31,31,31,31,31", 2, 15);
    }

    /** Section 3, HALVES: one CELL alone can't be parted: the greater part has it, by the least line. */
    static void halvesOfOneCell() {
        halved("1,0,0,0,0", 1, 1);
        halved("0,0,0,0,16", 1, 1);
    }

    // ---- Promise 22

    /** Promise 22, section 3: "n mild days (0 .. 60)". */
    static void boundsOfDays() {
        SuetTroubles x = new SuetTroubles();
        for (int n : new int[] {-1, 61, Integer.MIN_VALUE, Integer.MAX_VALUE}) {
            Check.due("mild(" + n + ", 50)", x.mild(n, 50), Check.OUTSIDE);
        }
        Check.due("no day", x.mild(0, 50), 1000000000);
        Check.due("60 days", x.mild(60, 99), 547156620);
    }

    /** Promise 22, section 3: "q of a hundred (0 .. 100)". */
    static void boundsOfOdds() {
        SuetTroubles x = new SuetTroubles();
        for (int q : new int[] {-1, 101, Integer.MIN_VALUE, Integer.MAX_VALUE}) {
            Check.due("mild(5, " + q + ")", x.mild(5, q), Check.OUTSIDE);
            Check.due("mild(0, " + q + ")", x.mild(0, q), Check.OUTSIDE);
        }
        Check.due("never", x.mild(1, 0), 0);
        Check.due("no day by never", x.mild(0, 0), 1000000000);
        Check.due("always", x.mild(60, 100), 1000000000);
    }

    /** Section 3, MILD: "a BILLION times q / 100 each (cut)": each day is cut, till nothing is left. */
    static void oddsAreCutEachDay() {
        SuetTroubles x = new SuetTroubles();
        Check.due("the last that is left", x.mild(4, 1), 10);
        Check.due("nothing is left", x.mild(5, 1), 0);
        Check.due("cut each day, not once", x.mild(60, 97), 160806655);
    }

    /** Section 3: "TRIED from now; nothing changes by it". */
    static void nothingChanges() {
        SuetTroubles x = wrapped(Check.FIVE);
        x.putOn(0);
        x.putOn(3);
        x.hour(1);
        x.seed(31);
        int[] ahead = Picture.of(x);
        for (int t = 0; t < 5; t++) {
            x.toWrap(t, 0);
            x.toWrap(t, 1);
            x.toWrap(t, 2);
            x.soft(t, 500);
            x.when(t);
            x.halves(t, 0);
            x.halves(t, 1);
        }
        x.order(31, 0);
        x.order(31, 1);
        x.mild(60, 99);
        int[] behind = Picture.of(x);
        for (int k = 0; k < ahead.length; k++) {
            Check.due("answer " + k + " of the picture", behind[k], ahead[k]);
        }
        Check.due("the seed", x.seed(0), 31);
    }
}
