/** Promises 17 to 22: toWrap, soft, when, order, halves, mild. */
public final class TriedTest {
    public static void main(String[] args) {
        toWrap();
        softAndWhen();
        order();
        orderNever();
        orderOfSix();
        halves();
        mild();
        nothingChanges();
        Check.end();
    }

    private static void wrapped(String rows, int count, int first, int side) {
        SuetTroubles x = Check.of("f1 1;t0 1," + rows + ";");
        Check.due("toWrap 0 of " + rows, x.toWrap(0, 0), count);
        Check.due("toWrap 1 of " + rows, x.toWrap(0, 1), first);
        Check.due("toWrap 2 of " + rows, x.toWrap(0, 2), side);
        Check.due("wrap of " + rows, x.wrap(0), Math.max(1, count));
    }

    private static void toWrap() {
        wrapped("0,0,0,0,0", -1, -1, -1);
        wrapped("1,0,0,0,0", 1, 0, 1);
        wrapped("0,0,0,0,16", 1, 18, 1);
        wrapped("0,0,0,8,24", 1, 18, 2);
        wrapped("0,0,4,0,0", 1, 6, 1);
        wrapped("31,31,31,31,31", 9, 0, 5);
        wrapped("21,10,21,10,21", 9, 0, 5);
        wrapped("0,14,14,14,0", 4, 0, 3);
        wrapped("0,0,0,31,31", 3, 15, 5);
        wrapped("0,0,30,0,0", 2, 6, 4);
        wrapped("0,0,12,12,0", 1, 12, 2);
        wrapped("8,0,8,0,8", 3, 2, 5);
        SuetTroubles x = Check.of(Check.FIVE);
        Check.due("toWrap(5, 9)", x.toWrap(5, 9), Check.UNKNOWN);
        Check.due("toWrap(0, 3)", x.toWrap(0, 3), Check.OUTSIDE);
        Check.due("toWrap(3, -1)", x.toWrap(3, -1), Check.OUTSIDE);
        x.cut(2, 24);
        Check.due("as it is cut", x.toWrap(2, 0), 4);
    }

    private static void softAndWhen() {
        SuetTroubles x = Check.of("f5 3;t0 200,1,0,0,0,0;t1 200,1,0,0,0,0;t2 200,31,31,31,31,31;t3 200,1,0,0,0,0;t2 200,31,31,31,31,15;");
        Check.due("soft(5, 999)", x.soft(5, 999), Check.UNKNOWN);
        Check.due("soft(0, -1)", x.soft(0, -1), Check.OUTSIDE);
        Check.due("soft(0, 501)", x.soft(0, 501), Check.OUTSIDE);
        Check.due("soft(0, 500)", x.soft(0, 500), 0);
        Check.due("soft(0, 39)", x.soft(0, 39), 5);
        Check.due("soft(1, 99)", x.soft(1, 99), 2);
        Check.due("soft(2, 500)", x.soft(2, 500), 200);
        Check.due("soft(4, 100)", x.soft(4, 100), 100);
        Check.due("soft(3, 79)", x.soft(3, 79), 5);
        Check.due("soft(3, 80)", x.soft(3, 80), 0);
        Check.due("when(5)", x.when(5), Check.UNKNOWN);
        Check.due("when(-1)", x.when(-1), Check.UNKNOWN);
        Check.due("when(0)", x.when(0), 40);
        Check.due("when(1)", x.when(1), 100);
        Check.due("when(2)", x.when(2), Check.NONE);
        Check.due("when(3)", x.when(3), 80);
        Check.due("when(4)", x.when(4), 200);
        x.hour(1);
        Check.due("soft(3, 1) from an odd hour", x.soft(3, 1), 195);
        Check.due("when(3) from an odd hour", x.when(3), 79);
        SuetTroubles y = Check.of("f1 1;t3 200,1,0,0,0,0;t1 1,1,0,0,0,0;t0 3,1,0,0,0,0;e1;");
        Check.due("slow absence", y.when(0), 400);
        Check.due("half of one", y.when(1), Check.NONE);
        y.wrap(2);
        y.putOn(2);
        y.hour(3);
        Check.due("good now", y.when(2), 0);
        y.bear(2);
        Check.due("borne", y.when(2), 0);
        Check.due("soft(2, 5) borne", y.soft(2, 5), 0);
    }

    private static void order() {
        SuetTroubles x = Check.of(Check.FIVE);
        Check.due("order(32, 0)", x.order(32, 0), Check.UNKNOWN);
        Check.due("order(-1, 9)", x.order(-1, 9), Check.UNKNOWN);
        Check.due("order(Integer.MIN_VALUE, 0)", x.order(Integer.MIN_VALUE, 0), Check.UNKNOWN);
        Check.due("order(1, 2)", x.order(1, 2), Check.OUTSIDE);
        Check.due("order(1, -1)", x.order(1, -1), Check.OUTSIDE);
        Check.due("order(1, 0) raw", x.order(1, 0), Check.NOT);
        for (int t = 0; t < 5; t++) {
            x.wrap(t);
        }
        Check.due("order(31, 0)", x.order(31, 0), 56);
        Check.due("order(31, 1)", x.order(31, 1), 51423);
        Check.due("order(0, 1)", x.order(0, 1), 0);
        x.putOn(4);
        x.hour(2);
        Check.due("a good one", x.order(16, 0), 0);
        Check.due("its figure", x.order(16, 1), 5);
        x.bear(4);
        Check.due("a borne one", x.order(17, 0), Check.NOT);
        SuetTroubles y = Check.of("f1 1;t0 4,1,0,0,0,0;t0 4,1,0,0,0,0;t0 4,1,0,0,0,0;");
        for (int t = 0; t < 3; t++) {
            y.wrap(t);
        }
        Check.due("like ones", y.order(7, 1), 123);
        Check.due("their sum", y.order(7, 0), 24);
        Check.due("two of them", y.order(6, 1), 23);
    }

    private static void orderNever() {
        SuetTroubles x = Check.of("f1 1;t0 4,1,0,0,0,0;t1 4,1,0,0,0,0;");
        x.wrap(0);
        x.wrap(1);
        Check.due("the sum: one is never good", x.order(3, 0), Check.NONE);
        Check.due("the figures: one is never good", x.order(3, 1), Check.NONE);
        Check.due("the other alone", x.order(1, 0), 4);
    }

    private static void orderOfSix() {
        StringBuilder text = new StringBuilder("f1 1;");
        for (int k = 0; k < 6; k++) {
            text.append("t3 200,0,0,0,0,0;");
        }
        SuetTroubles x = Check.of(text.toString());
        for (int t = 0; t < 6; t++) {
            x.wrap(t);
        }
        Check.due("six absences", x.order(63, 0), 400 * 21);
        Check.due("their figures", x.order(63, 1), 123456);
        x.hour(1);
        Check.due("six absences from an odd hour", x.order(63, 0), 400 * 21 - 6);
        SuetTroubles y = Check.of("f1 1;t3 1,0,0,0,0,0;t0 1,0,0,0,0,0;t3 1,0,0,0,0,0;");
        for (int t = 0; t < 3; t++) {
            y.wrap(t);
        }
        Check.due("odd hours are waited for best", y.order(7, 0), 1 + 2 + 4);
        Check.due("by a plain one first", y.order(7, 1), 213);
    }

    private static void halved(String rows, int line, int cells) {
        SuetTroubles x = Check.of("f1 1;t0 1," + rows + ";");
        Check.due("halves 0 of " + rows, x.halves(0, 0), line);
        Check.due("halves 1 of " + rows, x.halves(0, 1), cells);
    }

    private static void halves() {
        halved("0,0,0,0,0", -1, -1);
        halved("0,0,0,0,16", 1, 1);
        halved("31,31,31,31,31", 2, 15);
        halved("15,0,0,0,0", 12, 2);
        halved("0,0,0,3,3", 4, 2);
        halved("0,0,0,0,24", 14, 1);
        halved("1,0,0,0,1", 1, 1);
        halved("31,1,0,0,0", 12, 3);
        SuetTroubles x = Check.of(Check.FIVE);
        Check.due("halves(5, 5)", x.halves(5, 5), Check.UNKNOWN);
        Check.due("halves(0, 2)", x.halves(0, 2), Check.OUTSIDE);
        Check.due("halves(3, -1)", x.halves(3, -1), Check.OUTSIDE);
    }

    private static void mild() {
        SuetTroubles x = new SuetTroubles();
        Check.due("mild(0, 0)", x.mild(0, 0), 1000000000);
        Check.due("mild(1, 0)", x.mild(1, 0), 0);
        Check.due("mild(60, 100)", x.mild(60, 100), 1000000000);
        Check.due("mild(5, 1)", x.mild(5, 1), 0);
        Check.due("mild(4, 1)", x.mild(4, 1), 10);
        Check.due("mild(7, 33)", x.mild(7, 33), 426184);
        Check.due("mild(61, 50)", x.mild(61, 50), Check.OUTSIDE);
        Check.due("mild(-1, 50)", x.mild(-1, 50), Check.OUTSIDE);
        Check.due("mild(5, 101)", x.mild(5, 101), Check.OUTSIDE);
        Check.due("mild(5, -1)", x.mild(5, -1), Check.OUTSIDE);
        long odds = 1000000000L;
        for (int n = 1; n <= 60; n++) {
            odds = odds * 97 / 100;
            Check.due("mild(" + n + ", 97)", x.mild(n, 97), (int) odds);
        }
    }

    private static void nothingChanges() {
        SuetTroubles x = Check.of(Check.FIVE);
        x.wrap(0);
        x.putOn(0);
        int[] before = new int[19];
        for (int what = 0; what < 19; what++) {
            before[what] = x.told(what);
        }
        x.soft(0, 9);
        x.when(0);
        x.order(1, 1);
        x.toWrap(2, 1);
        x.halves(2, 0);
        for (int what = 0; what < 19; what++) {
            Check.due("tried: told(" + what + ")", x.told(what), before[what]);
        }
        Check.due("hard", x.trouble(0, 1), 20);
    }
}
