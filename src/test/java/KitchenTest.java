/** Promises 1 to 7: a new object, feed, kitchen, fault, told, trouble, eater. */
public final class KitchenTest {
    public static void main(String[] args) {
        newObject();
        feed();
        kitchenAnswers();
        kitchenBeginsAnew();
        faultyKitchenChangesNothing();
        faultOne();
        faultTwo();
        faultThree();
        blanks();
        mostOfAll();
        told();
        trouble();
        shapes();
        eater();
        Check.end();
    }

    private static void newObject() {
        SuetTroubles x = new SuetTroubles();
        int[] due = {0, 0, 0, 0, 0, 0, 0, 0, 0, 0, 0, 0, Check.NONE, 0, 0, 0, Check.NONE, 0, 0};
        for (int what = 0; what < due.length; what++) {
            Check.due("new: told(" + what + ")", x.told(what), due[what]);
        }
        Check.due("new: fault()", x.fault(), Check.NONE);
        Check.due("new: trouble(0, 0)", x.trouble(0, 0), Check.UNKNOWN);
        Check.due("new: eater(0, 0)", x.eater(0, 0), Check.UNKNOWN);
        Check.due("new: hour(1)", x.hour(1), Check.NOT);
        Check.due("new: hour(0)", x.hour(0), Check.OUTSIDE);
        Check.due("new: rest()", x.rest(), Check.NOT);
        Check.due("new: order(0, 1)", x.order(0, 1), 0);
        Check.due("new: order(1, 9)", x.order(1, 9), Check.UNKNOWN);
        Check.due("new: order(0, 2)", x.order(0, 2), Check.OUTSIDE);
        Check.due("new: goBack(0)", x.goBack(0), Check.NOT);
        Check.due("new: seed(7)", x.seed(7), 0);
    }

    private static void feed() {
        SuetTroubles x = new SuetTroubles();
        Check.due("feed(-1)", x.feed(-1), Check.OUTSIDE);
        Check.due("feed(256)", x.feed(256), Check.OUTSIDE);
        Check.due("feed(0)", x.feed(0), 1);
        Check.due("feed(255)", x.feed(255), 2);
        for (int k = 3; k <= 240; k++) {
            Check.due("feed the " + k + "th", x.feed(32), k);
        }
        Check.due("feed the 241st", x.feed(32), Check.FULL);
        Check.due("feed(256) when full", x.feed(256), Check.OUTSIDE);
        Check.due("told(4) when full", x.told(4), 240);
        Check.due("kitchen() when full", x.kitchen(), -11);
        Check.due("fault()", x.fault(), 0);
        Check.due("told(4) then", x.told(4), 0);
        Check.due("feed(102)", x.feed(102), 1);
    }

    private static void kitchenAnswers() {
        SuetTroubles x = new SuetTroubles();
        Check.due("kitchen of f only", Check.read(x, "f20 3;"), 0);
        Check.due("H", x.told(0), 20);
        Check.due("pots", x.told(1), 3);
        Check.due("hour(1) without a trouble", x.hour(1), 0);
        Check.due("kitchen of five", Check.read(x, Check.FIVE), 5);
        Check.due("hours begin at 0", x.told(5), 0);
        Check.due("blanks alone", Check.read(x, "   "), 0);
        Check.due("then there is no kitchen", x.hour(1), Check.NOT);
        Check.due("and no fault", x.fault(), Check.NONE);
        Check.due("and no H", x.told(0), 0);
        Check.due("and no eater", x.told(3), 0);
        Check.read(x, Check.FIVE);
        Check.due("empty text", x.kitchen(), 0);
        Check.due("no trouble then", x.told(2), 0);
    }

    private static void kitchenBeginsAnew() {
        SuetTroubles x = Check.of(Check.FIVE);
        x.seed(99);
        x.wrap(4);
        x.putOn(4);
        x.hour(3);
        x.bear(4);
        x.cut(2, 24);
        x.bump(3, true);
        x.write(0, 3);
        x.keep(0);
        x.keep(1);
        x.hour(1);
        Check.due("kitchen again", Check.read(x, Check.FIVE), 5);
        int[] due = {5, 2, 5, 2, 0, 0, 0, 0, 0, 0, 0, 15, 1, 0, 31, 56, 12, 0, 0};
        for (int what = 0; what < due.length; what++) {
            Check.due("again: told(" + what + ")", x.told(what), due[what]);
        }
        Check.due("hard again", x.trouble(4, 1), 1);
        Check.due("raw again", x.trouble(4, 3), 0);
        Check.due("shape again", x.trouble(2, 2), 16784551);
        Check.due("no load", x.eater(1, 1), 0);
        Check.due("image 0 is gone", x.goBack(0), Check.NOT);
        Check.due("image 1 is gone", x.goBack(1), Check.NOT);
        Check.due("nothing to undo", x.undo(), Check.NOT);
        Check.due("the seed stays", x.seed(0), 99);
    }

    private static void faultyKitchenChangesNothing() {
        SuetTroubles x = Check.of(Check.FIVE);
        x.wrap(0);
        x.bump(3, true);
        x.write(1, 9);
        x.keep(1);
        x.wrap(1);
        Check.due("a fault", Check.read(x, "f1 1;t0 7,1,1,1,1,1;e5;q"), -11);
        Check.due("at q", x.fault(), 23);
        int[] due = {5, 2, 5, 2, 0, 0, 3, 0, 0, 0, 4, 15, 1, 1};
        for (int what = 0; what < due.length; what++) {
            Check.due("as it was: told(" + what + ")", x.told(what), due[what]);
        }
        Check.due("as it was: book", x.told(17), 1);
        Check.due("as it was: undo", x.told(18), 1);
        Check.due("as it was: hard", x.trouble(0, 1), 20);
        Check.due("as it was: strength", x.eater(0, 0), 6);
        Check.due("as it was: undo()", x.undo(), 0);
        Check.due("as it was: image", x.goBack(1), 1);
        Check.due("empty text then", x.kitchen(), 0);
        Check.due("no fault then", x.fault(), Check.NONE);
    }

    private static void fault(String text, int number, int at) {
        SuetTroubles x = new SuetTroubles();
        Check.due("kitchen of '" + text + "'", Check.read(x, text), -10 - number);
        Check.due("fault of '" + text + "'", x.fault(), at);
        Check.due("letters behind '" + text + "'", x.told(4), 0);
        Check.due("hour(1) behind '" + text + "'", x.hour(1), Check.NOT);
    }

    private static void faultOne() {
        fault("e1;", 1, 0);
        fault("  t0 1,0,0,0,0,0;", 1, 2);
        fault("x", 1, 0);
        fault(";", 1, 0);
        fault("5", 1, 0);
        fault("F1 1;", 1, 0);
        fault("f", 1, 1);
        fault("f  ", 1, 3);
        fault("f5", 1, 2);
        fault("f5 ", 1, 3);
        fault("f5;", 1, 2);
        fault("f5,2;", 1, 2);
        fault("f15;", 1, 3);
        fault("f5 2", 1, 4);
        fault("f5 2 ", 1, 5);
        fault("f5 2,", 1, 4);
        fault("f5 2 1;", 1, 5);
        fault("f5 2;;", 1, 5);
        fault("f5 2; 7", 1, 6);
        fault("f5 2;t", 1, 6);
        fault("f5 2;t0", 1, 7);
        fault("f5 2;t0,", 1, 7);
        fault("f5 2;t0 1", 1, 9);
        fault("f5 2;t0 1;", 1, 9);
        fault("f5 2;t0 1 1,", 1, 10);
        fault("f5 2;t0 1,;", 1, 10);
        fault("f5 2;t0 1,1,1,1,1;", 1, 17);
        fault("f5 2;t0 1,1,1,1,1,1", 1, 19);
        fault("f5 2;t0 1,1,1,1,1,1,", 1, 19);
        fault("f5 2;t0 1,1,1,1,1,1 1;", 1, 20);
        fault("f5 2;e", 1, 6);
        fault("f5 2;e;", 1, 6);
        fault("f5 2;e1 2;", 1, 8);
        fault("f5 2;e1 f1 1;", 1, 8);
        fault("f5 2;e-1;", 1, 6);
        fault("f5 2;\t", 1, 5);
        fault("f5 2;" + (char) 233, 1, 5);
    }

    private static void faultTwo() {
        fault("f0 1;", 2, 1);
        fault("f21 1;", 2, 1);
        fault("f52;", 2, 1);
        fault("f 999", 2, 2);
        fault("f1 0;", 2, 3);
        fault("f1 4;", 2, 3);
        fault("f0005 1;", 2, 1);
        fault("f1 0001;", 2, 3);
        fault("f99999999999999999999 1;", 2, 1);
        fault("f1 1;t4 1,", 2, 6);
        fault("f1 1;t020,1,", 2, 6);
        fault("f1 1;t0 0,", 2, 8);
        fault("f1 1;t0 201", 2, 8);
        fault("f1 1;t0 1000", 2, 8);
        fault("f1 1;t0 1,32", 2, 10);
        fault("f1 1;t0 1,0,0,0,0,32", 2, 18);
        fault("f1 1;t0 1,0,0,0,0,0000", 2, 18);
        fault("f1 1;e0;", 2, 6);
        fault("f1 1;e31;", 2, 6);
        fault("f1 1;e 4294967297;", 2, 7);
    }

    private static void faultThree() {
        fault("f1 1;f", 3, 5);
        fault("f1 1; f1 1;", 3, 6);
        fault("f1 1;" + "e1;".repeat(6) + "e", 3, 23);
        fault("f1 1;" + "e1;".repeat(6) + " e0;", 3, 24);
        fault("f1 1;" + "t0 1,0,0,0,0,0;".repeat(6) + "t9", 3, 95);
    }

    private static void blanks() {
        SuetTroubles x = new SuetTroubles();
        String text = "  f 005  1 ; t 3 200 , 1 ,2, 4 ,8 ,16 ;  e 030 ; ";
        Check.due("kitchen with blanks", Check.read(x, text), 1);
        Check.due("H", x.told(0), 5);
        Check.due("kind", x.trouble(0, 0), 3);
        Check.due("hard", x.trouble(0, 1), 200);
        Check.due("shape", x.trouble(0, 2), 1 + (2 << 5) + (4 << 10) + (8 << 15) + (16 << 20));
        Check.due("strength", x.eater(0, 0), 30);
        Check.due("letters run on", Check.read(x, "f1 1;e1;t0 1,0,0,0,0,1;e2;"), 1);
        Check.due("eaters between", x.told(3), 2);
        Check.due("the second", x.eater(1, 0), 2);
    }

    private static void mostOfAll() {
        StringBuilder text = new StringBuilder("f20 3;");
        for (int k = 0; k < 6; k++) {
            text.append("t").append(k % 4).append(" ").append(200 - k).append(",31,31,31,31,").append(31 - k).append(";e").append(30 - k).append(";");
        }
        SuetTroubles x = new SuetTroubles();
        Check.due("six troubles", Check.read(x, text.toString()), 6);
        Check.due("six eaters", x.told(3), 6);
        for (int k = 0; k < 6; k++) {
            Check.due("kind " + k, x.trouble(k, 0), k % 4);
            Check.due("hard " + k, x.trouble(k, 1), 200 - k);
            Check.due("shape " + k, x.trouble(k, 2), (1 << 20) - 1 + ((31 - k) << 20));
            Check.due("strength " + k, x.eater(k, 0), 30 - k);
        }
        Check.due("no seventh trouble", x.trouble(6, 0), Check.UNKNOWN);
        Check.due("no seventh eater", x.eater(6, 0), Check.UNKNOWN);
    }

    private static void told() {
        SuetTroubles x = Check.of(Check.FIVE);
        Check.due("told(-1)", x.told(-1), Check.OUTSIDE);
        Check.due("told(19)", x.told(19), Check.OUTSIDE);
        x.feed(32);
        x.wrap(0);
        x.wrap(1);
        x.wrap(4);
        x.putOn(0);
        x.putOn(4);
        x.hour(1);
        x.bear(4);
        x.putOn(1);
        x.hour(3);
        x.takeOff(0);
        x.bump(0, true);
        x.bump(5, false);
        x.write(0, 0);
        int[] due = {5, 2, 5, 2, 1, 4, 1, 2, 16, 1, 5, 14, 1, 2, 2, 1, Check.NONE, 1, 10};
        for (int what = 0; what < due.length; what++) {
            Check.due("told(" + what + ")", x.told(what), due[what]);
        }
    }

    private static void trouble() {
        SuetTroubles x = Check.of(Check.FIVE);
        Check.due("trouble(5, 0)", x.trouble(5, 0), Check.UNKNOWN);
        Check.due("trouble(-1, 99)", x.trouble(-1, 99), Check.UNKNOWN);
        Check.due("trouble(0, -1)", x.trouble(0, -1), Check.OUTSIDE);
        Check.due("trouble(0, 9)", x.trouble(0, 9), Check.OUTSIDE);
        Check.due("kind of 2", x.trouble(2, 0), 2);
        Check.due("raw", x.trouble(4, 3), 0);
        x.wrap(4);
        Check.due("wrapped", x.trouble(4, 3), 1);
        x.putOn(4);
        Check.due("on", x.trouble(4, 3), 2);
        x.hour(1);
        x.bear(4);
        Check.due("borne", x.trouble(4, 3), 3);
        SuetTroubles y = Check.of("f1 1;t0 1,31,0,0,0,0;t0 1,15,0,0,0,0;t0 1,0,0,0,0,0;e3;e1;");
        Check.due("five on four", y.trouble(0, 8), 0);
        Check.due("four on four", y.trouble(1, 8), 1);
        SuetTroubles z = Check.of("f1 1;t0 1,0,0,0,0,0;");
        Check.due("one on none", z.trouble(0, 8), 0);
    }

    private static void shape(String rows, int parts, int greatest, int edge, int hold) {
        SuetTroubles x = Check.of("f1 1;t0 1," + rows + ";");
        Check.due("parts of " + rows, x.trouble(0, 4), parts);
        Check.due("greatest of " + rows, x.trouble(0, 5), greatest);
        Check.due("edge of " + rows, x.trouble(0, 6), edge);
        Check.due("hold of " + rows, x.trouble(0, 7), hold);
    }

    private static void shapes() {
        shape("0,0,0,0,0", 0, 0, 0, 0);
        shape("31,31,31,31,31", 1, 25, 20, 0);
        shape("21,10,21,10,21", 13, 1, 52, 0x1555555);
        shape("16,1,0,0,0", 2, 1, 8, 16 + 32);
        shape("24,1,0,0,0", 2, 2, 10, 8 + 16 + 32);
        shape("1,1,1,1,1", 1, 5, 12, 1 + (1 << 20));
        shape("31,16,31,1,31", 1, 17, 36, 1 + (1 << 24));
        shape("3,3,0,24,24", 2, 4, 16, 0);
    }

    private static void eater() {
        SuetTroubles x = Check.of(Check.FIVE);
        Check.due("eater(0, 0)", x.eater(0, 0), 6);
        Check.due("eater(0, 1)", x.eater(0, 1), 0);
        Check.due("eater(2, 0)", x.eater(2, 0), Check.UNKNOWN);
        Check.due("eater(-1, 5)", x.eater(-1, 5), Check.UNKNOWN);
        Check.due("eater(1, 2)", x.eater(1, 2), Check.OUTSIDE);
        Check.due("eater(1, -1)", x.eater(1, -1), Check.OUTSIDE);
    }
}
