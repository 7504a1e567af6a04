/** Promises 8 to 16: wrap, putOn, takeOff, hour, bear, rest, cut, drift, undo. */
public final class DeedsTest {
    public static void main(String[] args) {
        wrap();
        putOn();
        takeOff();
        hour();
        kinds();
        hoursEnd();
        bear();
        rest();
        cut();
        drift();
        driftWithoutTroubles();
        undo();
        undoOfEach();
        Check.end();
    }

    private static void wrap() {
        SuetTroubles x = Check.of(Check.FIVE);
        Check.due("wrap(5)", x.wrap(5), Check.UNKNOWN);
        Check.due("wrap(-1)", x.wrap(-1), Check.UNKNOWN);
        Check.due("wrap(2)", x.wrap(2), 5);
        Check.due("sheets", x.told(10), 5);
        Check.due("wrap(2) again", x.wrap(2), Check.NOT);
        Check.due("wrap(3) folded in", x.wrap(3), 1);
        Check.due("sheets", x.told(10), 6);
        x.putOn(3);
        Check.due("wrap(3) on", x.wrap(3), Check.NOT);
        x.hour(20);
        x.bear(3);
        Check.due("wrap(3) borne", x.wrap(3), Check.NOT);
        Check.due("wrapped", x.told(6), 4);
        Check.due("hard yet", x.trouble(2, 1), 40);
    }

    private static void putOn() {
        SuetTroubles x = Check.of("f1 1;t0 1,1,0,0,0,0;t0 1,1,0,0,0,0;e1;");
        Check.due("putOn(2)", x.putOn(2), Check.UNKNOWN);
        Check.due("putOn raw", x.putOn(0), Check.NOT);
        x.wrap(0);
        Check.due("putOn(0)", x.putOn(0), 0);
        Check.due("putOn(0) again", x.putOn(0), Check.NOT);
        Check.due("putOn raw, no pot free", x.putOn(1), Check.NOT);
        x.wrap(1);
        Check.due("no pot free", x.putOn(1), Check.FULL);
        x.hour(1);
        x.bear(0);
        Check.due("a pot is free by bearing", x.putOn(1), 0);
        Check.due("putOn borne", x.putOn(0), Check.NOT);
    }

    private static void takeOff() {
        SuetTroubles x = Check.of(Check.FIVE);
        Check.due("takeOff(5)", x.takeOff(5), Check.UNKNOWN);
        Check.due("takeOff raw", x.takeOff(0), Check.NOT);
        x.wrap(0);
        Check.due("takeOff wrapped", x.takeOff(0), Check.NOT);
        x.putOn(0);
        x.hour(2);
        Check.due("takeOff(0)", x.takeOff(0), 10);
        Check.due("wrapped again", x.trouble(0, 3), 1);
        x.hour(2);
        Check.due("not softened off the fire", x.trouble(0, 1), 10);
        Check.due("put on again", x.putOn(0), 1);
    }

    private static void hour() {
        SuetTroubles x = Check.of(Check.FIVE);
        Check.due("hour(0)", x.hour(0), Check.OUTSIDE);
        Check.due("hour(-1)", x.hour(-1), Check.OUTSIDE);
        Check.due("hour(61)", x.hour(61), Check.OUTSIDE);
        Check.due("hour(60)", x.hour(60), 0);
        Check.due("hours", x.told(5), 60);
        x.wrap(0);
        x.wrap(4);
        x.putOn(0);
        x.putOn(4);
        Check.due("hour(1)", x.hour(1), 16);
        Check.due("hour(2)", x.hour(2), 16);
        Check.due("hour(1)", x.hour(1), 17);
        x.takeOff(0);
        Check.due("good off the fire too", x.hour(1), 17);
    }

    private static void kinds() {
        SuetTroubles x = Check.of("f7 3;t1 20,1,0,0,0,0;t2 20,31,15,0,0,0;t3 20,1,0,0,0,0;");
        for (int t = 0; t < 3; t++) {
            x.wrap(t);
            x.putOn(t);
        }
        x.hour(1);
        Check.due("old: half", x.trouble(0, 1), 17);
        Check.due("war: less one", x.trouble(1, 1), 14);
        Check.due("absence: even", x.trouble(2, 1), 20);
        x.hour(1);
        Check.due("absence: odd", x.trouble(2, 1), 13);
        x.hour(1);
        Check.due("absence: even again", x.trouble(2, 1), 13);
        Check.due("old", x.trouble(0, 1), 11);
        Check.due("war", x.trouble(1, 1), 2);
        x.hour(1);
        Check.due("0 at least", x.trouble(1, 1), 0);
        SuetTroubles y = Check.of("f1 2;t2 1,31,0,0,0,0;t1 1,1,0,0,0,0;");
        y.wrap(0);
        y.wrap(1);
        y.putOn(0);
        y.putOn(1);
        Check.due("never", y.hour(60), 0);
        Check.due("war as hard as it was", y.trouble(0, 1), 1);
        SuetTroubles z = Check.of("f2 1;t2 9,31,31,31,31,31;");
        z.wrap(0);
        z.putOn(0);
        z.hour(60);
        Check.due("war is not hardened", z.trouble(0, 1), 9);
    }

    private static void hoursEnd() {
        SuetTroubles x = Check.of("f1 1;");
        for (int k = 0; k < 150; k++) {
            Check.due("hour(60)", x.hour(60), 0);
        }
        Check.due("hours", x.told(5), 9000);
        Check.due("not above 9000", x.hour(1), 0);
        Check.due("above 9000", x.hour(1), Check.FULL);
        Check.due("drift above 9000", x.drift(1), Check.FULL);
        Check.due("hour(0) above 9000", x.hour(0), Check.OUTSIDE);
        x.undo();
        Check.due("drift at 9000", x.drift(60), 0);
        Check.due("hours", x.told(5), 9060);
        Check.due("hour at 9060", x.hour(1), Check.FULL);
    }

    private static void bear() {
        SuetTroubles x = Check.of("f20 3;t0 1,31,0,0,0,0;t0 1,7,0,0,0,0;t0 1,0,0,0,0,0;e2;e4;e3;");
        Check.due("bear(3)", x.bear(3), Check.UNKNOWN);
        Check.due("bear raw", x.bear(0), Check.NOT);
        for (int t = 0; t < 3; t++) {
            x.wrap(t);
            x.putOn(t);
        }
        Check.due("bear hard", x.bear(0), Check.NOT);
        x.hour(1);
        Check.due("bear(0)", x.bear(0), 4);
        Check.due("load 0", x.eater(0, 1), 1);
        Check.due("load 1", x.eater(1, 1), 3);
        Check.due("load 2", x.eater(2, 1), 1);
        Check.due("strongest", x.told(12), 2);
        Check.due("bear(0) again", x.bear(0), Check.NOT);
        x.takeOff(1);
        Check.due("bear a wrapped one", x.bear(1), 1);
        Check.due("load 0", x.eater(0, 1), 2);
        Check.due("load 2", x.eater(2, 1), 2);
        Check.due("weight 1 at least", x.bear(2), 0);
        Check.due("load 1", x.eater(1, 1), 4);
        Check.due("strongest of like ones", x.told(12), 0);
        SuetTroubles y = Check.of("f20 1;t0 1,31,0,0,0,0;e4;");
        y.wrap(0);
        y.putOn(0);
        Check.due("good", y.hour(1), 1);
        Check.due("too little is left", y.bear(0), Check.NOT);
        Check.due("nothing changed", y.eater(0, 1), 0);
    }

    private static void rest() {
        SuetTroubles x = Check.of(Check.FIVE);
        Check.due("rest() without loads", x.rest(), 0);
        x.wrap(0);
        x.putOn(0);
        x.hour(4);
        x.bear(0);
        Check.due("rest()", x.rest(), 4);
        Check.due("left", x.told(11), 15);
        Check.due("load", x.eater(1, 1), 0);
        Check.due("borne yet", x.told(8), 1);
    }

    private static void cut() {
        SuetTroubles x = Check.of(Check.FIVE);
        Check.due("cut(5, 99)", x.cut(5, 99), Check.UNKNOWN);
        Check.due("cut(0, 25)", x.cut(0, 25), Check.OUTSIDE);
        Check.due("cut(0, -1)", x.cut(0, -1), Check.OUTSIDE);
        Check.due("cut a cell that it has not", x.cut(0, 2), Check.NOT);
        Check.due("cut(0, 6)", x.cut(0, 6), 3);
        Check.due("shape", x.trouble(0, 2), 35);
        Check.due("cut it again", x.cut(0, 6), Check.NOT);
        Check.due("cut(0, 0)", x.cut(0, 0), 2);
        Check.due("cut(0, 1)", x.cut(0, 1), 1);
        Check.due("the last one", x.cut(0, 5), Check.NOT);
        Check.due("without a cell", x.cut(3, 0), Check.NOT);
        Check.due("cut(2, 24)", x.cut(2, 24), 8);
        Check.due("war of eight", x.soft(2, 1), 36);
        x.wrap(2);
        Check.due("cut wrapped", x.cut(2, 0), Check.NOT);
        x.wrap(0);
        x.putOn(0);
        x.hour(4);
        Check.due("one cell to bear", x.bear(0), 14);
    }

    private static void drift() {
        SuetTroubles x = Check.of(Check.FIVE);
        Check.due("drift(0)", x.drift(0), Check.OUTSIDE);
        Check.due("drift(61)", x.drift(61), Check.OUTSIDE);
        x.wrap(1);
        x.putOn(1);
        x.hour(1);
        x.seed(5);
        Check.due("drift(20)", x.drift(20), 2);
        Check.due("hours", x.told(5), 21);
        Check.due("two draws an hour", x.seed(5), seedBehind(5, 40));
        x.undo();
        Check.due("undone at once", x.told(5), 1);
        Check.due("the seed stays", x.seed(1), 5);
        SuetTroubles y = Check.of("f20 3;t0 1,0,0,0,0,0;e1;");
        y.seed(0);
        Check.due("drift(60)", y.drift(60), driftsAlone(60));
        Check.due("as by hand", y.told(10), 1);
    }

    private static int seedBehind(int seed, int draws) {
        long v = seed;
        for (int k = 0; k < draws; k++) {
            v = (v * 1103515245L + 12345L) % 2147483648L;
        }
        return (int) v;
    }

    // One plain trouble that is good in an HOUR: 1 if wrap, put on, bear come in that order among the draws.
    private static int driftsAlone(int hours) {
        long v = 0;
        int stage = 0;
        boolean soft = false;
        for (int k = 0; k < hours; k++) {
            v = (v * 1103515245L + 12345L) % 2147483648L;
            int deed = (int) (v / 65536 % 5);
            v = (v * 1103515245L + 12345L) % 2147483648L;
            if (deed == 0 && stage == 0 || deed == 1 && stage == 1) {
                stage++;
            } else if (deed == 2 && stage == 2) {
                stage = 1;
            } else if (deed == 3 && soft && stage < 3) {
                stage = 3;
            }
            soft = soft || stage == 2;
        }
        return stage == 3 ? 1 : 0;
    }

    private static void driftWithoutTroubles() {
        SuetTroubles x = Check.of("f1 1;e3;");
        x.seed(77);
        Check.due("drift(5)", x.drift(5), 0);
        Check.due("hours", x.told(5), 5);
        Check.due("no draw", x.seed(0), 77);
        Check.due("undo()", x.undo(), 0);
        Check.due("hours", x.told(5), 0);
    }

    private static void undo() {
        SuetTroubles x = Check.of(Check.FIVE);
        Check.due("undo() of nothing", x.undo(), Check.NOT);
        for (int k = 1; k <= 20; k++) {
            x.hour(k);
            Check.due("can be undone", x.told(18), Math.min(k, 16));
        }
        for (int k = 20; k > 4; k--) {
            Check.due("undo()", x.undo(), k - 5);
            Check.due("hours", x.told(5), k * (k - 1) / 2);
        }
        Check.due("the oldest are lost", x.undo(), Check.NOT);
        x.hour(0);
        x.wrap(9);
        x.putOn(0);
        x.cut(3, 3);
        x.bear(0);
        x.takeOff(0);
        x.drift(99);
        Check.due("what is refused is not kept", x.told(18), 0);
        x.bump(1, true);
        x.write(0, 1);
        x.seed(3);
        x.tear();
        Check.due("nor what is not done", x.told(18), 0);
    }

    private static void undoOfEach() {
        SuetTroubles x = Check.of(Check.FIVE);
        x.cut(0, 0);
        x.wrap(0);
        x.putOn(0);
        x.hour(4);
        x.takeOff(0);
        x.bear(0);
        x.rest();
        Check.due("undo rest", x.undo(), 6);
        Check.due("loads", x.eater(1, 1), 3);
        Check.due("undo bear", x.undo(), 5);
        Check.due("wrapped", x.told(6), 1);
        Check.due("no loads", x.told(11), 15);
        Check.due("undo takeOff", x.undo(), 4);
        Check.due("on", x.told(7), 1);
        Check.due("undo hour", x.undo(), 3);
        Check.due("hard", x.trouble(0, 1), 20);
        Check.due("hours", x.told(5), 0);
        Check.due("undo putOn", x.undo(), 2);
        Check.due("off", x.told(7), 0);
        Check.due("undo wrap", x.undo(), 1);
        Check.due("sheets", x.told(10), 0);
        Check.due("raw", x.trouble(0, 3), 0);
        Check.due("shape", x.trouble(0, 2), 98);
        Check.due("undo cut", x.undo(), 0);
        Check.due("shape", x.trouble(0, 2), 99);
    }
}
