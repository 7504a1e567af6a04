import java.lang.reflect.Field;

/** Boundary cases of promises 5 to 14 and of section 2 of the terms: what is told, what is done. */
public final class DeedsEdgesTest {
    public static void main(String[] args) throws ReflectiveOperationException {
        Check.all(DeedsEdgesTest.class);
    }

    /** A kitchen with one trouble ON the fire. */
    private static SuetTroubles onFire(String text) {
        SuetTroubles x = Check.of(text);
        x.wrap(0);
        x.putOn(0);
        return x;
    }

    /** How much one HOUR, with that many ahead, softens a trouble HARD by 100. */
    private static int softened(int h, int kind, String rows, int hoursAhead) {
        SuetTroubles x = Check.of("f" + h + " 1;t" + kind + " 100," + rows + ";");
        for (int k = 0; k < hoursAhead; k++) {
            x.hour(1);
        }
        x.wrap(0);
        x.putOn(0);
        x.hour(1);
        return 100 - x.trouble(0, 1);
    }

    // ---- Promise 5

    /** Promise 5: "OUTSIDE": what below 0 and above 18, with a KITCHEN or without. */
    static void toldOutside() {
        for (SuetTroubles x : new SuetTroubles[] {new SuetTroubles(), Check.of(Check.FIVE)}) {
            for (int what : new int[] {-1, 19, Integer.MIN_VALUE, Integer.MAX_VALUE}) {
                Check.due("told(" + what + ")", x.told(what), Check.OUTSIDE);
            }
        }
    }

    /** Promise 5: 6 to 9 are SETS of TROUBLES: the sixth is bit 5. */
    static void setsOfSixTroubles() {
        SuetTroubles x = Check.of("f20 1;" + "t0 1,0,0,0,0,0;".repeat(6) + "e1;");
        x.wrap(5);
        Check.due("wrapped", x.told(6), 32);
        x.putOn(5);
        Check.due("wrapped no more", x.told(6), 0);
        Check.due("on", x.told(7), 32);
        x.hour(1);
        Check.due("good", x.told(9), 32);
        x.bear(5);
        Check.due("on no more", x.told(7), 0);
        Check.due("borne", x.told(8), 32);
        Check.due("and so by its number", x.trouble(5, 3), 3);
    }

    /** Promise 5: 11 "STRENGTH that is left together": all, and nothing of it. */
    static void strengthTogether() {
        SuetTroubles x = onFire("f20 1;t0 1,31,31,31,31,31;e5;e20;");
        Check.due("all", x.told(11), 25);
        x.hour(1);
        Check.due("bear(0)", x.bear(0), 0);
        Check.due("nothing", x.told(11), 0);
    }

    /** Promise 5: 12 STRONGEST, section 3: "NONE: there are none". */
    static void strongestOfNone() {
        Check.due("told(12)", Check.of("f1 1;t0 1,1,0,0,0,0;").told(12), Check.NONE);
    }

    /** Section 3, STRONGEST: "of like ones the least", also when none has any left. */
    static void strongestOfLikeOnes() {
        SuetTroubles x = onFire("f20 1;t0 1,15,0,0,0,0;e1;e2;e1;");
        Check.due("the second", x.told(12), 1);
        Check.due("like ones", Check.of("f1 1;e1;e2;e2;").told(12), 1);
        SuetTroubles y = onFire("f20 1;t0 1,15,0,0,0,0;e2;e2;");
        y.hour(1);
        Check.due("bear(0)", y.bear(0), 0);
        Check.due("none has any left", y.told(12), 0);
    }

    /** Section 3, STRONGEST: "most STRENGTH left", not most STRENGTH. */
    static void strongestByWhatIsLeft() {
        SuetTroubles x = onFire("f20 1;t0 1,15,0,0,0,0;e6;e3;");
        x.hour(1);
        x.bear(0);
        Check.due("told(12)", x.told(12), 1);
    }

    // ---- Promise 6

    /** Promise 6: "UNKNOWN": a TROUBLE below the first and behind the last. */
    static void troubleThatThereIsNot() {
        SuetTroubles x = Check.of(Check.FIVE);
        for (int t : new int[] {-1, 5, 6, 32, Integer.MIN_VALUE, Integer.MAX_VALUE}) {
            Check.due("trouble(" + t + ", 0)", x.trouble(t, 0), Check.UNKNOWN);
        }
        Check.due("the last", x.trouble(4, 1), 1);
    }

    /** Promise 6: "OUTSIDE": what below 0 and above 8. */
    static void troubleOutside() {
        SuetTroubles x = Check.of(Check.FIVE);
        for (int what : new int[] {-1, 9, Integer.MIN_VALUE, Integer.MAX_VALUE}) {
            Check.due("trouble(0, " + what + ")", x.trouble(0, what), Check.OUTSIDE);
        }
    }

    /** Promise 6, section 3: PARTS, the greatest, EDGE and HOLD of a SHAPE without a CELL. */
    static void noShapeHasNoParts() {
        SuetTroubles x = Check.of("f1 1;t0 1,0,0,0,0,0;");
        for (int what = 4; what <= 7; what++) {
            Check.due("trouble(0, " + what + ")", x.trouble(0, what), 0);
        }
    }

    /** Section 3, PARTS: "side by side, above": not over THE BOARD's side, from CELL 4 to CELL 5. */
    static void partsDoNotGoRoundTheSide() {
        SuetTroubles x = Check.of("f1 1;t0 1,16,1,0,0,0;t0 1,0,0,0,16,1;");
        for (int t = 0; t < 2; t++) {
            Check.due("parts", x.trouble(t, 4), 2);
            Check.due("the greatest", x.trouble(t, 5), 1);
            Check.due("edge", x.trouble(t, 6), 8);
        }
    }

    /** Section 3, PARTS: not from the last ROW to the first, and not across corners. */
    static void partsDoNotGoRoundTheEnd() {
        SuetTroubles x = Check.of("f1 1;t0 1,1,0,0,0,1;t0 1,1,2,4,8,16;");
        Check.due("parts, first and last row", x.trouble(0, 4), 2);
        Check.due("parts, corners", x.trouble(1, 4), 5);
    }

    /** Section 3, PARTS: the whole BOARD is one of 25, by the longest way, too. */
    static void greatestParts() {
        SuetTroubles x = Check.of("f1 1;t0 1,31,31,31,31,31;t0 1,31,16,31,1,31;t0 1,21,10,21,10,21;");
        Check.due("parts of the board", x.trouble(0, 4), 1);
        Check.due("cells of the board", x.trouble(0, 5), 25);
        Check.due("parts of a snake", x.trouble(1, 4), 1);
        Check.due("cells of a snake", x.trouble(1, 5), 17);
        Check.due("parts of single cells", x.trouble(2, 4), 13);
        Check.due("the greatest of these", x.trouble(2, 5), 1);
    }

    /** Section 3, PARTS: the greatest may be the last one, and CELL 0 alone is one. */
    static void greatestPartIsTheLast() {
        SuetTroubles x = Check.of("f1 1;t0 1,1,0,30,0,0;t0 1,3,0,1,0,31;t0 1,1,0,0,0,0;t0 1,31,0,1,0,0;");
        Check.due("the second of two", x.trouble(0, 5), 4);
        Check.due("the third of three", x.trouble(1, 5), 5);
        Check.due("one cell", x.trouble(2, 5), 1);
        Check.due("the first of two", x.trouble(3, 5), 5);
    }

    /** Section 3, EDGE: "sides of its CELLS not towards one of them": THE BOARD's end is EDGE too. */
    static void edgeAtTheBoardsEnd() {
        SuetTroubles x = Check.of("f1 1;t0 1,31,31,31,31,31;t0 1,1,0,0,0,0;t0 1,0,0,0,0,24;");
        Check.due("the board", x.trouble(0, 6), 20);
        Check.due("a corner", x.trouble(1, 6), 4);
        Check.due("two in the last row", x.trouble(2, 6), 6);
    }

    /** Section 3, EDGE: a hole within counts. */
    static void edgeWithin() {
        Check.due("edge", Check.of("f1 1;t0 1,7,5,7,0,0;").trouble(0, 6), 16);
    }

    /** Section 3, HOLD: "of which three sides or more are EDGE": two are too few, four are enough. */
    static void holdByThreeSides() {
        SuetTroubles x = Check.of("f1 1;t0 1,3,3,0,0,0;t0 1,7,0,0,0,0;t0 1,0,0,4,0,0;t0 1,31,31,31,31,31;");
        Check.due("two sides each", x.trouble(0, 7), 0);
        Check.due("three at both ends", x.trouble(1, 7), 5);
        Check.due("four", x.trouble(2, 7), 1 << 12);
        Check.due("the board", x.trouble(3, 7), 0);
    }

    /** Section 3, HOLD: the last CELL of THE BOARD, and a CELL beside the other side of it. */
    static void holdAtTheBoardsEnd() {
        SuetTroubles x = Check.of("f1 1;t0 1,16,1,0,0,16;");
        Check.due("hold", x.trouble(0, 7), 1 << 4 | 1 << 5 | 1 << 24);
    }

    /** Section 3, BEARABLE: as much as is left is borne, one more is not. */
    static void bearableByWhatIsLeft() {
        SuetTroubles x = Check.of("f20 1;t0 1,31,0,0,0,0;t0 1,15,0,0,0,0;t0 1,7,0,0,0,0;e3;e1;");
        Check.due("five on four", x.trouble(0, 8), 0);
        Check.due("four on four", x.trouble(1, 8), 1);
        x.wrap(2);
        x.putOn(2);
        x.hour(1);
        x.bear(2);
        Check.due("four on one, now", x.trouble(1, 8), 0);
        x.rest();
        Check.due("rested", x.trouble(1, 8), 1);
    }

    /** Section 3, BEARABLE of a SHAPE without a CELL: WEIGHT is "1 at least". */
    static void bearableWithoutACell() {
        Check.due("one on one", Check.of("f1 1;t0 1,0,0,0,0,0;e1;").trouble(0, 8), 1);
        Check.due("one on nobody", Check.of("f1 1;t0 1,0,0,0,0,0;").trouble(0, 8), 0);
    }

    // ---- Promise 7

    /** Promise 7: "UNKNOWN": an EATER below the first and behind the last. */
    static void eaterThatThereIsNot() {
        SuetTroubles x = Check.of(Check.FIVE);
        for (int e : new int[] {-1, 2, 6, Integer.MIN_VALUE, Integer.MAX_VALUE}) {
            Check.due("eater(" + e + ", 0)", x.eater(e, 0), Check.UNKNOWN);
        }
        Check.due("the last", x.eater(1, 0), 9);
    }

    /** Promise 7: "OUTSIDE": what below 0 and above 1. */
    static void eaterOutside() {
        SuetTroubles x = Check.of(Check.FIVE);
        for (int what : new int[] {-1, 2, Integer.MIN_VALUE, Integer.MAX_VALUE}) {
            Check.due("eater(0, " + what + ")", x.eater(0, what), Check.OUTSIDE);
        }
    }

    // ---- Section 2: raw, HARD, SOFTENED, GOOD

    /** Section 2: "raw (at first)", "HARD by N at first". */
    static void rawAtFirst() {
        SuetTroubles x = Check.of("f1 1;t0 200,1,0,0,0,0;t0 1,1,0,0,0,0;");
        Check.due("raw", x.trouble(0, 3), 0);
        Check.due("the hardest", x.trouble(0, 1), 200);
        Check.due("the least hard", x.trouble(1, 1), 1);
    }

    /** Section 2, KIND 0: "H", the least and the greatest. */
    static void plainSoftens() {
        Check.due("by 1", softened(1, 0, "31,31,31,31,31", 0), 1);
        Check.due("by 20", softened(20, 0, "31,31,31,31,31", 0), 20);
    }

    /** Section 2, KIND 1: "half of H (cut)": 0 of 1. */
    static void oldSoftensByHalf() {
        Check.due("half of 1", softened(1, 1, "1,0,0,0,0", 0), 0);
        Check.due("half of 2", softened(2, 1, "1,0,0,0,0", 0), 1);
        Check.due("half of 3", softened(3, 1, "1,0,0,0,0", 0), 1);
        Check.due("half of 19", softened(19, 1, "1,0,0,0,0", 0), 9);
        Check.due("half of 20", softened(20, 1, "1,0,0,0,0", 0), 10);
    }

    /** Section 2, KIND 2: "less one for each five CELLS of its SHAPE (cut)". */
    static void warSoftensLess() {
        Check.due("no cell", softened(20, 2, "0,0,0,0,0", 0), 20);
        Check.due("four", softened(20, 2, "15,0,0,0,0", 0), 20);
        Check.due("five", softened(20, 2, "31,0,0,0,0", 0), 19);
        Check.due("nine", softened(20, 2, "31,15,0,0,0", 0), 19);
        Check.due("ten", softened(20, 2, "31,31,0,0,0", 0), 18);
        Check.due("24", softened(20, 2, "31,31,31,31,15", 0), 16);
        Check.due("25", softened(20, 2, "31,31,31,31,31", 0), 15);
    }

    /** Section 2, KIND 2: "(0 at least)": no war is harder by boiling. */
    static void warSoftensByNothing() {
        Check.due("one less one", softened(1, 2, "31,0,0,0,0", 0), 0);
        Check.due("five less five", softened(5, 2, "31,31,31,31,31", 0), 0);
        Check.due("one less five", softened(1, 2, "31,31,31,31,31", 0), 0);
    }

    /** Section 2, KIND 2: by the SHAPE that it has yet, when it was cut. */
    static void warThatIsCut() {
        SuetTroubles x = Check.of("f3 1;t2 9,31,0,0,0,0;");
        x.cut(0, 4);
        x.wrap(0);
        x.putOn(0);
        x.hour(1);
        Check.due("hard", x.trouble(0, 1), 6);
    }

    /** Section 2, KIND 3: "H, if HOURS ahead of it are odd, else 0": the first HOUR has 0 ahead. */
    static void absenceSoftensInOddHours() {
        Check.due("0 ahead", softened(7, 3, "1,0,0,0,0", 0), 0);
        Check.due("1 ahead", softened(7, 3, "1,0,0,0,0", 1), 7);
        Check.due("2 ahead", softened(7, 3, "1,0,0,0,0", 2), 0);
        Check.due("3 ahead", softened(7, 3, "1,0,0,0,0", 3), 7);
    }

    /** Section 2, KIND 3: within one call, too, each HOUR is looked at. */
    static void absenceInOneCall() {
        SuetTroubles x = onFire("f1 1;t3 100,1,0,0,0,0;");
        x.hour(3);
        Check.due("three hours from 0", x.trouble(0, 1), 99);
        x.hour(3);
        Check.due("three hours from 3", x.trouble(0, 1), 97);
    }

    /** Section 2: "HARD is 0 at least". */
    static void hardIsNoughtAtLeast() {
        SuetTroubles x = onFire("f20 1;t0 1,1,0,0,0,0;");
        x.hour(1);
        Check.due("behind one hour", x.trouble(0, 1), 0);
        x.hour(60);
        Check.due("behind many", x.trouble(0, 1), 0);
    }

    /** Section 2, GOOD: "HARD by 0": by 1 it is not yet. */
    static void goodByNought() {
        SuetTroubles x = onFire("f1 1;t0 2,1,0,0,0,0;");
        Check.due("hard by 1", x.hour(1), 0);
        Check.due("hard by 0", x.hour(1), 1);
    }

    /** Section 2, GOOD: "and ON, or WRAPPED": a borne one is not. */
    static void goodOnOrWrapped() {
        SuetTroubles x = onFire("f1 1;t0 1,1,0,0,0,0;e1;");
        x.hour(1);
        Check.due("on", x.told(9), 1);
        x.takeOff(0);
        Check.due("wrapped", x.told(9), 1);
        x.bear(0);
        Check.due("borne", x.told(9), 0);
    }

    /** Section 2, AN HOUR: "all that are ON are SOFTENED": raw, WRAPPED and borne ones are not. */
    static void onlyThoseOnAreSoftened() {
        SuetTroubles x = Check.of("f1 2;t0 9,1,0,0,0,0;t0 9,1,0,0,0,0;t0 9,1,0,0,0,0;t0 9,1,0,0,0,0;");
        x.wrap(1);
        x.wrap(2);
        x.wrap(3);
        x.putOn(2);
        x.putOn(3);
        x.hour(1);
        Check.due("raw", x.trouble(0, 1), 9);
        Check.due("wrapped", x.trouble(1, 1), 9);
        Check.due("on", x.trouble(2, 1), 8);
        Check.due("on too", x.trouble(3, 1), 8);
    }

    // ---- Promise 8

    /** Promise 8: "UNKNOWN". */
    static void wrapUnknown() {
        SuetTroubles x = Check.of(Check.FIVE);
        Check.due("wrap(-1)", x.wrap(-1), Check.UNKNOWN);
        Check.due("wrap(5)", x.wrap(5), Check.UNKNOWN);
    }

    /** Promise 8: "NOT: it is not raw": WRAPPED, ON, borne. */
    static void wrapOnlyRaw() {
        SuetTroubles x = Check.of("f1 1;t0 1,1,0,0,0,0;e1;");
        Check.due("raw", x.wrap(0), 1);
        Check.due("wrapped", x.wrap(0), Check.NOT);
        x.putOn(0);
        Check.due("on", x.wrap(0), Check.NOT);
        x.hour(1);
        x.bear(0);
        Check.due("borne", x.wrap(0), Check.NOT);
        Check.due("sheets", x.told(10), 1);
    }

    /** Section 2, WRAPPED: "one without a CELL FOLDED in by 1". */
    static void foldedIn() {
        SuetTroubles x = Check.of("f1 1;t0 1,0,0,0,0,0;");
        Check.due("wrap(0)", x.wrap(0), 1);
        Check.due("sheets", x.told(10), 1);
        Check.due("wrapped", x.trouble(0, 3), 1);
    }

    /** Section 2, WRAPPED: SHEETS "are counted": the most that six TROUBLES can need. */
    static void sheetsOfSix() {
        SuetTroubles x = Check.of("f1 1;" + "t0 1,31,31,31,31,31;".repeat(6));
        for (int t = 0; t < 6; t++) {
            Check.due("wrap(" + t + ")", x.wrap(t), 9);
        }
        Check.due("sheets", x.told(10), 54);
    }

    /**
     * Section 2, WRAPPED: SHEETS are counted, "999999 at most". 512 calls can't need more than 54, so the count is put
     * there from outside.
     */
    static void sheetsAtTheirMost() throws ReflectiveOperationException {
        int[][] cases = {{999989, 999998}, {999990, 999999}, {999991, 999999}, {999999, 999999}};
        for (int[] one : cases) {
            SuetTroubles x = Check.of("f1 1;t0 1,31,31,31,31,31;");
            putSheets(x, one[0]);
            Check.due("sheets ahead", x.told(10), one[0]);
            Check.due("wrap(0)", x.wrap(0), 9);
            Check.due("sheets behind", x.told(10), one[1]);
            x.undo();
            Check.due("undone", x.told(10), one[0]);
        }
    }

    private static void putSheets(SuetTroubles x, int count) throws ReflectiveOperationException {
        Field scene = SuetTroubles.class.getDeclaredField("scene");
        scene.setAccessible(true);
        Field sheets = scene.getType().getDeclaredField("sheets");
        sheets.setAccessible(true);
        sheets.setInt(scene.get(x), count);
    }

    // ---- Promise 9

    /** Promise 9: "UNKNOWN". */
    static void putOnUnknown() {
        SuetTroubles x = Check.of(Check.FIVE);
        Check.due("putOn(-1)", x.putOn(-1), Check.UNKNOWN);
        Check.due("putOn(5)", x.putOn(5), Check.UNKNOWN);
    }

    /** Promise 9: "NOT: it is not WRAPPED": raw, ON, borne. */
    static void putOnOnlyWrapped() {
        SuetTroubles x = Check.of("f1 2;t0 1,1,0,0,0,0;e1;");
        Check.due("raw", x.putOn(0), Check.NOT);
        x.wrap(0);
        Check.due("wrapped", x.putOn(0), 1);
        Check.due("on", x.putOn(0), Check.NOT);
        x.hour(1);
        x.bear(0);
        Check.due("borne", x.putOn(0), Check.NOT);
    }

    /** Promise 9: "FULL: no POT is free": with one, two and three POTS. */
    static void potsAllInUse() {
        for (int pots = 1; pots <= 3; pots++) {
            SuetTroubles x = Check.of("f1 " + pots + ";" + "t0 1,0,0,0,0,0;".repeat(4));
            for (int t = 0; t < 4; t++) {
                x.wrap(t);
            }
            for (int t = 0; t < pots; t++) {
                Check.due("putOn(" + t + ")", x.putOn(t), pots - 1 - t);
            }
            Check.due("one more", x.putOn(pots), Check.FULL);
            Check.due("it is wrapped", x.trouble(pots, 3), 1);
        }
    }

    /** Promise 9: a POT is free again by taking off, and by bearing. */
    static void potsAreFreeAgain() {
        SuetTroubles x = Check.of("f1 1;t0 1,0,0,0,0,0;t0 1,0,0,0,0,0;e1;");
        x.wrap(0);
        x.wrap(1);
        x.putOn(0);
        Check.due("in use", x.putOn(1), Check.FULL);
        x.takeOff(0);
        Check.due("by taking off", x.putOn(1), 0);
        x.hour(1);
        x.bear(1);
        Check.due("by bearing", x.putOn(0), 0);
    }

    // ---- Promise 10

    /** Promise 10: "UNKNOWN". */
    static void takeOffUnknown() {
        SuetTroubles x = Check.of(Check.FIVE);
        Check.due("takeOff(-1)", x.takeOff(-1), Check.UNKNOWN);
        Check.due("takeOff(5)", x.takeOff(5), Check.UNKNOWN);
    }

    /** Promise 10: "NOT: it is not ON": raw, WRAPPED, borne. */
    static void takeOffOnlyOn() {
        SuetTroubles x = Check.of("f1 1;t0 2,1,0,0,0,0;e1;");
        Check.due("raw", x.takeOff(0), Check.NOT);
        x.wrap(0);
        Check.due("wrapped", x.takeOff(0), Check.NOT);
        x.putOn(0);
        x.hour(1);
        Check.due("on", x.takeOff(0), 1);
        Check.due("wrapped again", x.takeOff(0), Check.NOT);
        x.putOn(0);
        x.hour(1);
        x.bear(0);
        Check.due("borne", x.takeOff(0), Check.NOT);
    }

    // ---- Promise 11

    /** Promise 11: "n HOURS (1 .. 60)". */
    static void boundsOfHours() {
        SuetTroubles x = Check.of("f1 1;");
        for (int n : new int[] {0, -1, 61, Integer.MIN_VALUE, Integer.MAX_VALUE}) {
            Check.due("hour(" + n + ")", x.hour(n), Check.OUTSIDE);
        }
        Check.due("hours", x.told(5), 0);
        Check.due("hour(1)", x.hour(1), 0);
        Check.due("hour(60)", x.hour(60), 0);
        Check.due("hours", x.told(5), 61);
    }

    /** Promise 11: a KITCHEN without a TROUBLE has HOURS, and nobody is GOOD. */
    static void hoursWithoutATrouble() {
        Check.due("hour(1)", Check.of("f1 1;").hour(1), 0);
    }

    private static SuetTroubles atHour9000(String text) {
        SuetTroubles x = Check.of(text);
        for (int k = 0; k < 150; k++) {
            x.hour(60);
        }
        Check.due("hours", x.told(5), 9000);
        return x;
    }

    /** Promise 11: "FULL: HOURS are above 9000": at 9000 they are not. */
    static void hourAt9000() {
        SuetTroubles x = atHour9000("f1 1;");
        Check.due("hour(1) at 9000", x.hour(1), 0);
        Check.due("hours", x.told(5), 9001);
        Check.due("hour(1) at 9001", x.hour(1), Check.FULL);
        Check.due("hours", x.told(5), 9001);
    }

    /** Promise 11: HOURS at 9000 may pass by as many as a call takes: it's the HOURS that there are that count. */
    static void sixtyHoursAt9000() {
        SuetTroubles x = atHour9000("f1 1;");
        Check.due("hour(60) at 9000", x.hour(60), 0);
        Check.due("hours", x.told(5), 9060);
        Check.due("hour(1) at 9060", x.hour(1), Check.FULL);
    }

    /** Promise 15: "FULL: HOURS are above 9000", and no DRAW is made then. */
    static void driftAt9000() {
        SuetTroubles x = atHour9000("f1 1;t0 1,0,0,0,0,0;");
        x.seed(5);
        Check.due("drift(60) at 9000", x.drift(60) & ~1, 0);
        Check.due("hours", x.told(5), 9060);
        x.seed(6);
        Check.due("drift(1) at 9060", x.drift(1), Check.FULL);
        Check.due("the seed", x.seed(0), 6);
    }

    /** Promises 11, 16: behind the last HOUR, an HOUR undone can come again; all else can be done yet. */
    static void undoneAt9001() {
        SuetTroubles x = atHour9000("f1 1;t0 1,0,0,0,0,0;");
        x.hour(1);
        Check.due("wrap(0)", x.wrap(0), 1);
        Check.due("rest()", x.rest(), 0);
        x.undo();
        x.undo();
        x.undo();
        Check.due("hours", x.told(5), 9000);
        Check.due("hour(1)", x.hour(1), 0);
    }

    /** Promises 3, 11: a new KITCHEN begins at HOUR 0. */
    static void newKitchenAt9001() {
        SuetTroubles x = atHour9000("f1 1;");
        x.hour(1);
        Check.read(x, "f1 1;");
        Check.due("hour(1)", x.hour(1), 0);
        Check.due("hours", x.told(5), 1);
    }

    // ---- Promise 12

    /** Promise 12: "UNKNOWN". */
    static void bearUnknown() {
        SuetTroubles x = Check.of(Check.FIVE);
        Check.due("bear(-1)", x.bear(-1), Check.UNKNOWN);
        Check.due("bear(5)", x.bear(5), Check.UNKNOWN);
    }

    /** Promise 12: "NOT: it is not GOOD": raw, WRAPPED, ON and HARD yet, borne. */
    static void bearOnlyGood() {
        SuetTroubles x = Check.of("f1 1;t0 2,1,0,0,0,0;e9;");
        Check.due("raw", x.bear(0), Check.NOT);
        x.wrap(0);
        Check.due("wrapped", x.bear(0), Check.NOT);
        x.putOn(0);
        x.hour(1);
        Check.due("hard by 1", x.bear(0), Check.NOT);
        x.hour(1);
        Check.due("good", x.bear(0), 8);
        Check.due("borne", x.bear(0), Check.NOT);
        Check.due("load", x.eater(0, 1), 1);
    }

    /** Promise 12: "NOT: too little is left"; section 2: "if all STRENGTH that is left together is less". */
    static void bearTooLittle() {
        SuetTroubles x = onFire("f20 1;t0 1,31,0,0,0,0;e2;e2;");
        x.hour(1);
        Check.due("five on four", x.bear(0), Check.NOT);
        Check.due("no load", x.eater(0, 1) + x.eater(1, 1), 0);
        Check.due("on yet", x.trouble(0, 3), 2);
    }

    /** Section 2, BORNE: as much as is left, to the last of it. */
    static void bearJustEnough() {
        SuetTroubles x = onFire("f20 1;t0 1,31,0,0,0,0;e2;e3;");
        x.hour(1);
        Check.due("five on five", x.bear(0), 0);
        Check.due("load 0", x.eater(0, 1), 2);
        Check.due("load 1", x.eater(1, 1), 3);
    }

    /** Section 2, BORNE: nobody bears, where there is no EATER, not even one without a CELL. */
    static void bearByNobody() {
        SuetTroubles x = onFire("f20 1;t0 1,0,0,0,0,0;");
        x.hour(1);
        Check.due("bear(0)", x.bear(0), Check.NOT);
    }

    /** Section 2, BORNE: "its WEIGHT (CELLS of its SHAPE, 1 at least)". */
    static void weightOfNoShape() {
        SuetTroubles x = onFire("f20 1;t0 1,0,0,0,0,0;e1;");
        x.hour(1);
        Check.due("bear(0)", x.bear(0), 0);
        Check.due("load", x.eater(0, 1), 1);
    }

    /** Section 2, BORNE: "a CELL each time to the EATER with most STRENGTH left .. of like ones the least". */
    static void sharesOfLikeOnes() {
        SuetTroubles x = onFire("f20 1;t0 1,15,0,0,0,0;e3;e3;e3;");
        x.hour(1);
        Check.due("bear(0)", x.bear(0), 5);
        Check.due("load 0", x.eater(0, 1), 2);
        Check.due("load 1", x.eater(1, 1), 1);
        Check.due("load 2", x.eater(2, 1), 1);
    }

    /** Section 2, BORNE: the weak bear nothing while another has more left. */
    static void sharesOfTheStrong() {
        SuetTroubles x = onFire("f20 1;t0 1,15,0,0,0,0;e1;e30;e26;");
        x.hour(1);
        Check.due("bear(0)", x.bear(0), 53);
        Check.due("load 0", x.eater(0, 1), 0);
        Check.due("load 1", x.eater(1, 1), 4);
        Check.due("load 2", x.eater(2, 1), 0);
    }

    // ---- Promise 13

    /** Promise 13: "all LOADS that were, together": none, and all; a second time none. */
    static void restOfLoads() {
        SuetTroubles x = onFire("f20 1;t0 1,31,31,31,31,31;e20;e20;");
        Check.due("none", x.rest(), 0);
        x.hour(1);
        x.bear(0);
        Check.due("all", x.rest(), 25);
        Check.due("again", x.rest(), 0);
        Check.due("left", x.told(11), 40);
    }

    /** Promise 13: "all LOADS": of six EATERS. */
    static void restOfSix() {
        SuetTroubles x = onFire("f20 1;t0 1,31,1,0,0,0;" + "e1;".repeat(6));
        x.hour(1);
        Check.due("bear(0)", x.bear(0), 0);
        Check.due("rest()", x.rest(), 6);
        for (int e = 0; e < 6; e++) {
            Check.due("load " + e, x.eater(e, 1), 0);
        }
    }

    /** Promise 13 in a KITCHEN without an EATER. */
    static void restWithoutAnEater() {
        Check.due("rest()", Check.of("f1 1;").rest(), 0);
    }

    // ---- Promise 14

    /** Promise 14: "UNKNOWN". */
    static void cutUnknown() {
        SuetTroubles x = Check.of(Check.FIVE);
        Check.due("cut(-1, 0)", x.cut(-1, 0), Check.UNKNOWN);
        Check.due("cut(5, 0)", x.cut(5, 0), Check.UNKNOWN);
    }

    /** Promise 14: "a CELL 0 .. 24". */
    static void boundsOfCutCell() {
        SuetTroubles x = Check.of("f1 1;t0 1,31,31,31,31,31;");
        for (int cell : new int[] {-1, 25, 31, 32, Integer.MIN_VALUE, Integer.MAX_VALUE}) {
            Check.due("cut(0, " + cell + ")", x.cut(0, cell), Check.OUTSIDE);
        }
        Check.due("cut(0, 0)", x.cut(0, 0), 24);
        Check.due("cut(0, 24)", x.cut(0, 24), 23);
        Check.due("shape", x.trouble(0, 2), (1 << 24) - 2);
    }

    /** Promise 14: "NOT: it is not raw". */
    static void cutOnlyRaw() {
        SuetTroubles x = Check.of("f1 1;t0 1,3,0,0,0,0;e9;");
        x.wrap(0);
        Check.due("wrapped", x.cut(0, 0), Check.NOT);
        x.putOn(0);
        Check.due("on", x.cut(0, 0), Check.NOT);
        x.hour(1);
        x.bear(0);
        Check.due("borne", x.cut(0, 0), Check.NOT);
        Check.due("shape", x.trouble(0, 2), 3);
    }

    /** Promise 14: "NOT: has not that CELL", never had it or has it no more. */
    static void cutACellThatItHasNot() {
        SuetTroubles x = Check.of("f1 1;t0 1,7,0,0,0,0;");
        Check.due("never had", x.cut(0, 3), Check.NOT);
        x.cut(0, 0);
        Check.due("no more", x.cut(0, 0), Check.NOT);
        Check.due("shape", x.trouble(0, 2), 6);
    }

    /** Promise 14: "NOT: that alone"; section 2: "(not the last one)". */
    static void cutTheLastCell() {
        SuetTroubles x = Check.of("f1 1;t0 1,0,0,0,0,24;t0 1,1,0,0,0,0;");
        Check.due("one of two", x.cut(0, 23), 1);
        Check.due("the last one", x.cut(0, 24), Check.NOT);
        Check.due("told as one", x.cut(1, 0), Check.NOT);
        Check.due("shape", x.trouble(0, 2), 1 << 24);
    }

    /** Section 2: what a SHAPE lost needs no SHEET and has no WEIGHT. */
    static void cutCellsAreGone() {
        SuetTroubles x = Check.of("f20 1;t0 1,1,0,0,0,16;e1;");
        Check.due("not bearable whole", x.trouble(0, 8), 0);
        Check.due("cut(0, 24)", x.cut(0, 24), 1);
        Check.due("bearable", x.trouble(0, 8), 1);
        Check.due("wrap(0)", x.wrap(0), 1);
        Check.due("sheets", x.told(10), 1);
        x.putOn(0);
        x.hour(1);
        Check.due("bear(0)", x.bear(0), 0);
        Check.due("load", x.eater(0, 1), 1);
    }

    /** Promise 14 of a SHAPE without a CELL: it has none that could be lost. */
    static void cutNoShape() {
        SuetTroubles x = Check.of("f1 1;t0 1,0,0,0,0,0;");
        Check.due("cut(0, 0)", x.cut(0, 0), Check.NOT);
        Check.due("cut(0, 24)", x.cut(0, 24), Check.NOT);
    }
}
