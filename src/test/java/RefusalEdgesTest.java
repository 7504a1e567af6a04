/** The general terms: REFUSALS, "of several the first in this order", and "what is refused changes nothing". */
public final class RefusalEdgesTest {
    private interface Call {
        int on(SuetTroubles x);
    }

    private interface Scene {
        SuetTroubles make();
    }

    public static void main(String[] args) throws ReflectiveOperationException {
        Check.all(RefusalEdgesTest.class);
    }

    /** Both POTS are in use by 0 (GOOD) and 1, 3 is WRAPPED, 2 and 4 are raw; IMAGE 0 was kept, five deeds can be undone. */
    private static SuetTroubles busy() {
        SuetTroubles x = Check.of(Check.FIVE);
        x.seed(7);
        x.cut(2, 24);
        x.wrap(0);
        x.keep(0);
        x.wrap(1);
        x.putOn(0);
        x.putOn(1);
        x.wrap(3);
        x.hour(4);
        x.bump(3, false);
        x.write(0, 0);
        x.write(1, 9);
        x.feed('f');
        return x;
    }

    /** The same, but nothing can be undone, BUMPS and THE BOOK are full, and 0 can't be borne. */
    private static SuetTroubles full() {
        SuetTroubles x = Check.of("f9 1;t0 9,3,3,0,0,0;t0 9,1,0,0,0,0;t0 9,1,0,0,0,0;t0 9,1,0,0,0,0;e3;");
        x.wrap(0);
        x.putOn(0);
        x.hour(1);
        x.wrap(1);
        x.seed(8);
        x.keep(0);
        for (int k = 0; k < 15; k++) {
            x.write(1, 9);
            x.bump(24, false);
        }
        return x;
    }

    /** HOURS above 9000. */
    private static SuetTroubles late() {
        SuetTroubles x = Check.of("f1 1;t0 9,1,0,0,0,0;");
        x.keep(0);
        for (int k = 0; k < 151; k++) {
            x.hour(60);
        }
        x.seed(9);
        return x;
    }

    private static SuetTroubles none() {
        SuetTroubles x = new SuetTroubles();
        x.seed(10);
        x.keep(0);
        x.bump(1, true);
        x.feed('f');
        return x;
    }

    private static void same(String what, SuetTroubles got, SuetTroubles want) {
        int[] is = Picture.of(got);
        int[] due = Picture.of(want);
        for (int k = 0; k < due.length; k++) {
            Check.due(what + ": answer " + k + " of the picture", is[k], due[k]);
        }
    }

    /** The call is refused so, and an object of the same scene without that call answers all else alike. */
    private static void refused(String name, Scene scene, int refusal, Call call) {
        SuetTroubles x = scene.make();
        SuetTroubles other = scene.make();
        Check.due(name, call.on(x), refusal);
        same(name, x, other);
        Check.due(name + ": the seed", x.seed(1), other.seed(1));
        Check.due(name + ": undo()", x.undo(), other.undo());
        Check.due(name + ": goBack(0)", x.goBack(0), other.goBack(0));
        same(name + ", undone and gone back", x, other);
        Check.due(name + ": the seed of the image", x.seed(1), other.seed(1));
        Check.due(name + ": goBack(1)", x.goBack(1), other.goBack(1));
        Check.due(name + ": kitchen()", x.kitchen(), other.kitchen());
    }

    private static void refusedBusy(String name, int refusal, Call call) {
        refused(name, RefusalEdgesTest::busy, refusal, call);
    }

    private static void refusedFull(String name, int refusal, Call call) {
        refused(name, RefusalEdgesTest::full, refusal, call);
    }

    // ---- Terms: what is refused changes nothing, call by call (promises 2, 5 to 24, 27 to 29)

    /** Promise 2: a letter OUTSIDE. */
    static void feedChangesNothing() {
        refusedBusy("feed(-1)", Check.OUTSIDE, x -> x.feed(-1));
        refusedBusy("feed(256)", Check.OUTSIDE, x -> x.feed(256));
    }

    /** Promises 5, 6, 7: questions OUTSIDE or UNKNOWN. */
    static void questionsChangeNothing() {
        refusedBusy("told(19)", Check.OUTSIDE, x -> x.told(19));
        refusedBusy("trouble(5, 0)", Check.UNKNOWN, x -> x.trouble(5, 0));
        refusedBusy("trouble(0, 9)", Check.OUTSIDE, x -> x.trouble(0, 9));
        refusedBusy("eater(2, 0)", Check.UNKNOWN, x -> x.eater(2, 0));
        refusedBusy("eater(0, 2)", Check.OUTSIDE, x -> x.eater(0, 2));
    }

    /** Promise 8. */
    static void wrapChangesNothing() {
        refusedBusy("wrap(5)", Check.UNKNOWN, x -> x.wrap(5));
        refusedBusy("wrap(0), on", Check.NOT, x -> x.wrap(0));
        refusedBusy("wrap(3), wrapped", Check.NOT, x -> x.wrap(3));
    }

    /** Promise 9. */
    static void putOnChangesNothing() {
        refusedBusy("putOn(5)", Check.UNKNOWN, x -> x.putOn(5));
        refusedBusy("putOn(2), raw", Check.NOT, x -> x.putOn(2));
        refusedBusy("putOn(0), on", Check.NOT, x -> x.putOn(0));
        refusedBusy("putOn(3), no pot", Check.FULL, x -> x.putOn(3));
    }

    /** Promise 10. */
    static void takeOffChangesNothing() {
        refusedBusy("takeOff(-1)", Check.UNKNOWN, x -> x.takeOff(-1));
        refusedBusy("takeOff(2), raw", Check.NOT, x -> x.takeOff(2));
        refusedBusy("takeOff(3), wrapped", Check.NOT, x -> x.takeOff(3));
    }

    /** Promises 11 and 15. */
    static void hoursChangeNothing() {
        refusedBusy("hour(0)", Check.OUTSIDE, x -> x.hour(0));
        refusedBusy("hour(61)", Check.OUTSIDE, x -> x.hour(61));
        refusedBusy("drift(0)", Check.OUTSIDE, x -> x.drift(0));
        refusedBusy("drift(61)", Check.OUTSIDE, x -> x.drift(61));
        refused("hour(1), late", RefusalEdgesTest::late, Check.FULL, x -> x.hour(1));
        refused("drift(1), late", RefusalEdgesTest::late, Check.FULL, x -> x.drift(1));
        refused("hour(1), no kitchen", RefusalEdgesTest::none, Check.NOT, x -> x.hour(1));
        refused("drift(1), no kitchen", RefusalEdgesTest::none, Check.NOT, x -> x.drift(1));
    }

    /** Promise 12. */
    static void bearChangesNothing() {
        refusedBusy("bear(5)", Check.UNKNOWN, x -> x.bear(5));
        refusedBusy("bear(2), raw", Check.NOT, x -> x.bear(2));
        refusedBusy("bear(1), hard", Check.NOT, x -> x.bear(1));
        refusedFull("bear(0), too little", Check.NOT, x -> x.bear(0));
    }

    /** Promise 13. */
    static void restChangesNothing() {
        refused("rest(), no kitchen", RefusalEdgesTest::none, Check.NOT, SuetTroubles::rest);
    }

    /** Promise 14. */
    static void cutChangesNothing() {
        refusedBusy("cut(5, 0)", Check.UNKNOWN, x -> x.cut(5, 0));
        refusedBusy("cut(2, 25)", Check.OUTSIDE, x -> x.cut(2, 25));
        refusedBusy("cut(2, -1)", Check.OUTSIDE, x -> x.cut(2, -1));
        refusedBusy("cut(1, 0), on", Check.NOT, x -> x.cut(1, 0));
        refusedBusy("cut(2, 6), has it not", Check.NOT, x -> x.cut(2, 6));
        refusedBusy("cut(4, 12), that alone", Check.NOT, x -> x.cut(4, 12));
    }

    /** Promise 16. */
    static void undoChangesNothing() {
        refusedFull("undo(), none", Check.NOT, SuetTroubles::undo);
    }

    /** Promises 17 to 22. */
    static void triedChangesNothing() {
        refusedBusy("toWrap(5, 0)", Check.UNKNOWN, x -> x.toWrap(5, 0));
        refusedBusy("toWrap(0, 3)", Check.OUTSIDE, x -> x.toWrap(0, 3));
        refusedBusy("soft(5, 0)", Check.UNKNOWN, x -> x.soft(5, 0));
        refusedBusy("soft(0, 501)", Check.OUTSIDE, x -> x.soft(0, 501));
        refusedBusy("when(5)", Check.UNKNOWN, x -> x.when(5));
        refusedBusy("order(32, 0)", Check.UNKNOWN, x -> x.order(32, 0));
        refusedBusy("order(1, 2)", Check.OUTSIDE, x -> x.order(1, 2));
        refusedBusy("order(4, 0), raw", Check.NOT, x -> x.order(4, 0));
        refusedBusy("halves(5, 0)", Check.UNKNOWN, x -> x.halves(5, 0));
        refusedBusy("halves(0, 2)", Check.OUTSIDE, x -> x.halves(0, 2));
        refusedBusy("mild(61, 50)", Check.OUTSIDE, x -> x.mild(61, 50));
    }

    /** Promises 23 and 24. */
    static void feltChangesNothing() {
        refusedBusy("bump(25, true)", Check.OUTSIDE, x -> x.bump(25, true));
        refusedFull("bump(0, true), full", Check.FULL, x -> x.bump(0, true));
        refusedBusy("write(5, 0)", Check.UNKNOWN, x -> x.write(5, 0));
        refusedBusy("write(0, 201)", Check.OUTSIDE, x -> x.write(0, 201));
        refusedFull("write(0, 9), full", Check.FULL, x -> x.write(0, 9));
    }

    /** Promises 27 to 29. */
    static void imagesChangeNothing() {
        refusedBusy("seed(-1)", Check.OUTSIDE, x -> x.seed(-1));
        refusedBusy("keep(2)", Check.UNKNOWN, x -> x.keep(2));
        refusedBusy("goBack(2)", Check.UNKNOWN, x -> x.goBack(2));
        refusedBusy("goBack(1), not kept", Check.NOT, x -> x.goBack(1));
    }

    // ---- Terms: REFUSALS, of several the first in this order: UNKNOWN, OUTSIDE, NOT, FULL

    /** Promise 2: OUTSIDE ahead of FULL. */
    static void orderOfFeed() {
        SuetTroubles x = new SuetTroubles();
        for (int k = 0; k < 240; k++) {
            x.feed(' ');
        }
        Check.due("feed(256)", x.feed(256), Check.OUTSIDE);
        Check.due("feed(-1)", x.feed(-1), Check.OUTSIDE);
        Check.due("feed(255)", x.feed(255), Check.FULL);
    }

    /** Promises 6, 7: UNKNOWN ahead of OUTSIDE. */
    static void orderOfTroubleAndEater() {
        SuetTroubles x = busy();
        Check.due("trouble(5, 9)", x.trouble(5, 9), Check.UNKNOWN);
        Check.due("trouble(-1, -1)", x.trouble(-1, -1), Check.UNKNOWN);
        Check.due("eater(2, 2)", x.eater(2, 2), Check.UNKNOWN);
        Check.due("eater(-1, -1)", x.eater(-1, -1), Check.UNKNOWN);
    }

    /** Promise 9: UNKNOWN ahead of FULL, NOT ahead of FULL. */
    static void orderOfPutOn() {
        SuetTroubles x = busy();
        Check.due("unknown, no pot", x.putOn(5), Check.UNKNOWN);
        Check.due("raw, no pot", x.putOn(2), Check.NOT);
        Check.due("on, no pot", x.putOn(0), Check.NOT);
        Check.due("wrapped, no pot", x.putOn(3), Check.FULL);
    }

    /** Promises 11, 15: OUTSIDE ahead of NOT. */
    static void orderOfHoursWithoutAKitchen() {
        SuetTroubles x = none();
        Check.due("hour(0)", x.hour(0), Check.OUTSIDE);
        Check.due("hour(61)", x.hour(61), Check.OUTSIDE);
        Check.due("drift(0)", x.drift(0), Check.OUTSIDE);
        Check.due("drift(61)", x.drift(61), Check.OUTSIDE);
    }

    /** Promises 11, 15: OUTSIDE ahead of FULL. */
    static void orderOfHoursWhenLate() {
        SuetTroubles x = late();
        Check.due("hour(0)", x.hour(0), Check.OUTSIDE);
        Check.due("hour(61)", x.hour(61), Check.OUTSIDE);
        Check.due("drift(0)", x.drift(0), Check.OUTSIDE);
        Check.due("drift(61)", x.drift(61), Check.OUTSIDE);
    }

    /** Promise 14: UNKNOWN ahead of OUTSIDE, OUTSIDE ahead of NOT. */
    static void orderOfCut() {
        SuetTroubles x = busy();
        Check.due("unknown, outside", x.cut(5, 25), Check.UNKNOWN);
        Check.due("outside, on", x.cut(0, 25), Check.OUTSIDE);
        Check.due("outside, wrapped", x.cut(3, -1), Check.OUTSIDE);
        Check.due("on", x.cut(0, 24), Check.NOT);
    }

    /** Promises 17, 18, 21: UNKNOWN ahead of OUTSIDE; OUTSIDE ahead of NONE. */
    static void orderOfTried() {
        SuetTroubles x = busy();
        Check.due("toWrap(5, 3)", x.toWrap(5, 3), Check.UNKNOWN);
        Check.due("toWrap(3, 3)", x.toWrap(3, 3), Check.OUTSIDE);
        Check.due("soft(5, 501)", x.soft(5, 501), Check.UNKNOWN);
        Check.due("halves(5, 2)", x.halves(5, 2), Check.UNKNOWN);
        Check.due("halves(3, 2)", x.halves(3, 2), Check.OUTSIDE);
    }

    /** Promise 20: UNKNOWN ahead of OUTSIDE and NOT, OUTSIDE ahead of NOT. */
    static void orderOfOrder() {
        SuetTroubles x = busy();
        Check.due("unknown, outside", x.order(32, 2), Check.UNKNOWN);
        Check.due("unknown, raw", x.order(36, 0), Check.UNKNOWN);
        Check.due("outside, raw", x.order(4, 2), Check.OUTSIDE);
        Check.due("raw", x.order(4, 1), Check.NOT);
    }

    /** Promise 20: NOT ahead of NONE: a raw one, and one that is never GOOD. */
    static void orderOfOrderNever() {
        SuetTroubles x = Check.of("f1 1;t1 1,1,0,0,0,0;t0 1,1,0,0,0,0;");
        x.wrap(0);
        Check.due("both", x.order(3, 0), Check.NOT);
        Check.due("never", x.order(1, 0), Check.NONE);
    }

    /** Promise 23: OUTSIDE ahead of FULL. */
    static void orderOfBump() {
        SuetTroubles x = full();
        Check.due("bump(25, true)", x.bump(25, true), Check.OUTSIDE);
        Check.due("bump(-1, true)", x.bump(-1, true), Check.OUTSIDE);
        Check.due("bump(24, true)", x.bump(24, true), Check.FULL);
    }

    /** Promise 24: UNKNOWN ahead of OUTSIDE and FULL, OUTSIDE ahead of FULL. */
    static void orderOfWrite() {
        SuetTroubles x = full();
        Check.due("unknown, outside, full", x.write(4, 201), Check.UNKNOWN);
        Check.due("unknown, full", x.write(4, 9), Check.UNKNOWN);
        Check.due("outside, full", x.write(0, 201), Check.OUTSIDE);
        Check.due("full", x.write(0, 200), Check.FULL);
    }

    /** Promise 29: UNKNOWN ahead of NOT. */
    static void orderOfGoBack() {
        SuetTroubles x = new SuetTroubles();
        Check.due("goBack(2)", x.goBack(2), Check.UNKNOWN);
        Check.due("goBack(-1)", x.goBack(-1), Check.UNKNOWN);
        Check.due("goBack(1)", x.goBack(1), Check.NOT);
    }

    /** Terms: REFUSALS "are far below all that is counted": -1000000001 and on, in their order; NONE is -1. */
    static void numbersOfRefusals() {
        Check.due("NONE", SuetTroubles.NONE, -1);
        Check.due("UNKNOWN", SuetTroubles.UNKNOWN, -1000000001);
        Check.due("OUTSIDE", SuetTroubles.OUTSIDE, -1000000002);
        Check.due("NOT", SuetTroubles.NOT, -1000000003);
        Check.due("FULL", SuetTroubles.FULL, -1000000004);
    }
}
