/** Boundary cases of promises 1 to 4 and of section 1 of the terms: THE TEXT, THE KITCHEN, FAULTS. */
public final class TextEdgesTest {
    private static final String NO_SHAPE = "t0 1,0,0,0,0,0;";

    public static void main(String[] args) throws ReflectiveOperationException {
        Check.all(TextEdgesTest.class);
    }

    private static void taken(String text, int troubles) {
        SuetTroubles x = new SuetTroubles();
        Check.due("kitchen of '" + text + "'", Check.read(x, text), troubles);
        Check.due("fault of '" + text + "'", x.fault(), Check.NONE);
    }

    private static void fault(String text, int number, int at) {
        SuetTroubles x = new SuetTroubles();
        Check.due("kitchen of '" + text + "'", Check.read(x, text), -10 - number);
        Check.due("fault of '" + text + "'", x.fault(), at);
    }

    // ---- Promise 1

    /** Promise 1: "No KITCHEN": nothing is counted, nobody is strongest, no CELL parts pairs. */
    static void newObjectTellsNothing() {
        SuetTroubles x = new SuetTroubles();
        for (int what = 0; what <= 18; what++) {
            Check.due("told(" + what + ")", x.told(what), what == 12 || what == 16 ? Check.NONE : 0);
        }
    }

    /** Promise 1: "No KITCHEN": there is no TROUBLE, by any call that names one. */
    static void newObjectHasNoTrouble() {
        SuetTroubles x = new SuetTroubles();
        Check.due("trouble(0, 0)", x.trouble(0, 0), Check.UNKNOWN);
        Check.due("wrap(0)", x.wrap(0), Check.UNKNOWN);
        Check.due("putOn(0)", x.putOn(0), Check.UNKNOWN);
        Check.due("takeOff(0)", x.takeOff(0), Check.UNKNOWN);
        Check.due("bear(0)", x.bear(0), Check.UNKNOWN);
        Check.due("cut(0, 0)", x.cut(0, 0), Check.UNKNOWN);
        Check.due("toWrap(0, 0)", x.toWrap(0, 0), Check.UNKNOWN);
        Check.due("soft(0, 0)", x.soft(0, 0), Check.UNKNOWN);
        Check.due("when(0)", x.when(0), Check.UNKNOWN);
        Check.due("order(1, 0)", x.order(1, 0), Check.UNKNOWN);
        Check.due("halves(0, 0)", x.halves(0, 0), Check.UNKNOWN);
        Check.due("write(0, 0)", x.write(0, 0), Check.UNKNOWN);
    }

    /** Promise 1: "No KITCHEN": there is no EATER. */
    static void newObjectHasNoEater() {
        Check.due("eater(0, 0)", new SuetTroubles().eater(0, 0), Check.UNKNOWN);
    }

    /** Promises 11, 13, 15: "NOT: no KITCHEN". */
    static void newObjectHasNoHours() {
        SuetTroubles x = new SuetTroubles();
        Check.due("hour(1)", x.hour(1), Check.NOT);
        Check.due("rest()", x.rest(), Check.NOT);
        Check.due("drift(1)", x.drift(1), Check.NOT);
        Check.due("hours", x.told(5), 0);
    }

    /** Promises 16, 26, 29 on a new object: nothing to be undone, THE BOOK is empty, no IMAGE was kept. */
    static void newObjectHasNoPast() {
        SuetTroubles x = new SuetTroubles();
        Check.due("undo()", x.undo(), Check.NOT);
        Check.due("judge()", x.judge(), Check.NONE);
        Check.due("goBack(0)", x.goBack(0), Check.NOT);
        Check.due("goBack(1)", x.goBack(1), Check.NOT);
    }

    /** Promise 20 on a new object: a SET of nobody can be ordered. */
    static void newObjectOrdersNobody() {
        SuetTroubles x = new SuetTroubles();
        Check.due("order(0, 0)", x.order(0, 0), 0);
        Check.due("order(0, 1)", x.order(0, 1), 0);
    }

    // ---- Promise 2

    /** Promise 2: "a number 0 .. 255": one below. */
    static void letterBelow() {
        SuetTroubles x = new SuetTroubles();
        Check.due("feed(-1)", x.feed(-1), Check.OUTSIDE);
        Check.due("feed(least)", x.feed(Integer.MIN_VALUE), Check.OUTSIDE);
        Check.due("letters", x.told(4), 0);
    }

    /** Promise 2: "a number 0 .. 255": one above. */
    static void letterAbove() {
        SuetTroubles x = new SuetTroubles();
        Check.due("feed(256)", x.feed(256), Check.OUTSIDE);
        Check.due("feed('f' and 256)", x.feed('f' + 256), Check.OUTSIDE);
        Check.due("feed(greatest)", x.feed(Integer.MAX_VALUE), Check.OUTSIDE);
        Check.due("letters", x.told(4), 0);
    }

    /** Promise 2: "a number 0 .. 255": the least and the greatest are letters, though no word is one. */
    static void leastAndGreatestLetter() {
        SuetTroubles x = new SuetTroubles();
        Check.due("feed(0)", x.feed(0), 1);
        Check.due("feed(255)", x.feed(255), 2);
        Check.due("kitchen()", x.kitchen(), -11);
    }

    /** Promise 2: "FULL (240)": the 240th is taken, the 241st is not, and THE TEXT is read as it was. */
    static void fullText() {
        SuetTroubles x = new SuetTroubles();
        Check.feedAll(x, "f5 2;");
        for (int k = 6; k <= 239; k++) {
            x.feed(' ');
        }
        Check.due("the 240th", x.feed(' '), 240);
        Check.due("the 241st", x.feed('q'), Check.FULL);
        Check.due("letters", x.told(4), 240);
        Check.due("kitchen()", x.kitchen(), 0);
        Check.due("no fault", x.fault(), Check.NONE);
        Check.due("H", x.told(0), 5);
    }

    /** Promise 2, section 1: a full text whose last letter, the 240th, counts. */
    static void lastLetterOfFullText() {
        SuetTroubles x = new SuetTroubles();
        Check.feedAll(x, "f5 2");
        for (int k = 5; k <= 239; k++) {
            x.feed(' ');
        }
        Check.due("the 240th", x.feed(';'), 240);
        Check.due("kitchen()", x.kitchen(), 0);
        Check.due("pots", x.told(1), 2);
    }

    /** Section 1: "the end at the text's length": 240, when the text is full. */
    static void faultAtTheEndOfFullText() {
        SuetTroubles x = new SuetTroubles();
        Check.feedAll(x, "f5 2");
        for (int k = 5; k <= 240; k++) {
            x.feed(' ');
        }
        Check.due("kitchen()", x.kitchen(), -11);
        Check.due("fault()", x.fault(), 240);
    }

    /** Promise 2: letters can come again when THE TEXT was full and has become THE KITCHEN. */
    static void feedBehindFullText() {
        SuetTroubles x = new SuetTroubles();
        for (int k = 1; k <= 240; k++) {
            x.feed(' ');
        }
        Check.due("full", x.feed(' '), Check.FULL);
        x.kitchen();
        Check.due("feed behind it", x.feed('f'), 1);
    }

    // ---- Section 1: bounds of each clause

    /** Section 1, 'f': "softens by H an HOUR, 1 .. 20". */
    static void boundsOfH() {
        fault("f0 1;", 2, 1);
        taken("f1 1;", 0);
        taken("f20 1;", 0);
        fault("f21 1;", 2, 1);
    }

    /** Section 1, 'f': "holds P POTS, 1 .. 3". */
    static void boundsOfPots() {
        fault("f1 0;", 2, 3);
        taken("f1 1;", 0);
        taken("f1 3;", 0);
        fault("f1 4;", 2, 3);
    }

    /** Section 1, 'f': "first". */
    static void fireComesFirst() {
        fault("t0 1,0,0,0,0,0;f1 1;", 1, 0);
        fault("e1;f1 1;", 1, 0);
        fault("  e1;f1 1;", 1, 2);
    }

    /** Section 1, 'f': "once"; FAULT 3: "'f' again (at it)". */
    static void fireComesOnce() {
        fault("f1 1;f1 1;", 3, 5);
        fault("f1 1; e1; f", 3, 10);
    }

    /** Section 1, 't': "6 TROUBLES at most"; FAULT 3: "a seventh 't' (at it)". */
    static void sixTroubles() {
        taken("f1 1;" + NO_SHAPE.repeat(6), 6);
        fault("f1 1;" + NO_SHAPE.repeat(7), 3, 95);
        fault("f1 1;" + NO_SHAPE.repeat(6) + " t", 3, 96);
        taken("f1 1;" + NO_SHAPE.repeat(6) + "e1;", 6);
    }

    /** Section 1, 'e': "6 EATERS at most"; FAULT 3: "a seventh 'e' (at it)". */
    static void sixEaters() {
        taken("f1 1;" + "e1;".repeat(6), 0);
        fault("f1 1;" + "e1;".repeat(7), 3, 23);
        fault("f1 1;" + "e1;".repeat(6) + " e", 3, 24);
        taken("f1 1;" + "e1;".repeat(6) + NO_SHAPE, 1);
    }

    /** Section 1, 't': "KIND K, 0 .. 3". */
    static void boundsOfKind() {
        taken("f1 1;t0 1,0,0,0,0,0;", 1);
        taken("f1 1;t3 1,0,0,0,0,0;", 1);
        fault("f1 1;t4 1,0,0,0,0,0;", 2, 6);
    }

    /** Section 1, 't': "HARD by N, 1 .. 200". */
    static void boundsOfHard() {
        fault("f1 1;t0 0,0,0,0,0,0;", 2, 8);
        taken("f1 1;t0 1,0,0,0,0,0;", 1);
        taken("f1 1;t0 200,0,0,0,0,0;", 1);
        fault("f1 1;t0 201,0,0,0,0,0;", 2, 8);
    }

    /** Section 1, 't': "a SET of COLUMNS, 0 .. 31", in each of the five ROWS. */
    static void boundsOfRows() {
        for (int row = 0; row < 5; row++) {
            String ahead = "f1 1;t0 1," + "0,".repeat(row);
            String behind = ",0".repeat(4 - row) + ";";
            SuetTroubles x = new SuetTroubles();
            Check.due("31 in row " + row, Check.read(x, ahead + "31" + behind), 1);
            Check.due("shape", x.trouble(0, 2), 31 << 5 * row);
            fault(ahead + "32" + behind, 2, ahead.length());
        }
    }

    /** Section 1, 't': "then 5 numbers P": neither four nor six. */
    static void fiveRows() {
        fault("f1 1;t0 1;", 1, 9);
        fault("f1 1;t0 1,0,0,0,0;", 1, 17);
        fault("f1 1;t0 1,0,0,0,0,0,0;", 1, 19);
    }

    /** Section 1, 't': "each with a ',' ahead". */
    static void commaAheadOfEachRow() {
        fault("f1 1;t0 1 0,0,0,0,0;", 1, 10);
        fault("f1 1;t0 1,0 0,0,0,0;", 1, 12);
        fault("f1 1;t0 1,0,0,0,0 0;", 1, 18);
        fault("f1 1;t0,1,0,0,0,0,0;", 1, 7);
        fault("f1 1;t0 1,,0,0,0,0;", 1, 10);
    }

    /** Section 1, 't': "all 0: it has none" (no SHAPE). */
    static void noShape() {
        SuetTroubles x = Check.of("f1 1;" + NO_SHAPE);
        Check.due("shape", x.trouble(0, 2), 0);
        Check.due("toWrap(0, 0)", x.toWrap(0, 0), Check.NONE);
        Check.due("halves(0, 0)", x.halves(0, 0), Check.NONE);
    }

    /** Section 1: "CELL 5 times the ROW, and the COLUMN": the four corners. */
    static void cornersOfTheBoard() {
        SuetTroubles x = Check.of("f1 1;t0 1,1,0,0,0,0;t0 1,16,0,0,0,0;t0 1,0,0,0,0,1;t0 1,0,0,0,0,16;");
        Check.due("upper left", x.trouble(0, 2), 1);
        Check.due("upper right", x.trouble(1, 2), 1 << 4);
        Check.due("lower left", x.trouble(2, 2), 1 << 20);
        Check.due("lower right", x.trouble(3, 2), 1 << 24);
    }

    /** Section 1, 'e': "STRENGTH S, 1 .. 30". */
    static void boundsOfStrength() {
        fault("f1 1;e0;", 2, 6);
        taken("f1 1;e1;", 0);
        taken("f1 1;e30;", 0);
        fault("f1 1;e31;", 2, 6);
    }

    // ---- Section 1: NUMBERS, words, blanks

    /** Section 1: "NUMBERS have one to three figures", with noughts ahead too. */
    static void threeFigures() {
        taken("f01 1;", 0);
        taken("f001 003;", 0);
        SuetTroubles x = Check.of("f020 001;t003 099,000,000,000,000,031;e007;");
        Check.due("H", x.told(0), 20);
        Check.due("hard", x.trouble(0, 1), 99);
        Check.due("strength", x.eater(0, 0), 7);
    }

    /** Section 1, FAULT 2: "a NUMBER of four figures or more", though its worth is within bounds. */
    static void fourFigures() {
        fault("f0001 1;", 2, 1);
        fault("f1 0001;", 2, 3);
        fault("f1 1;e0030;", 2, 6);
        fault("f1 1;t0000 1,0,0,0,0,0;", 2, 6);
        fault("f1 1;t0 0200,0,0,0,0,0;", 2, 8);
        fault("f1 1;t0 1,0,0,0,0,0000;", 2, 18);
    }

    /** Section 1, FAULT 2: a NUMBER too great for any machine number, whose low digits would be within bounds. */
    static void hugeNumbers() {
        fault("f4294967297 1;", 2, 1);
        fault("f18446744073709551617 1;", 2, 1);
        fault("f1 1;e" + "0".repeat(200) + "1;", 2, 6);
    }

    /** Section 1: "blanks (32) may stand anywhere": ahead of, between and behind all words, NUMBERS and signs. */
    static void blanksAnywhere() {
        taken("   f   1   1   ;   t   0   1   ,   0   ,   0   ,   0   ,   0   ,   0   ;   e   1   ;   ", 1);
    }

    /** Section 1: blanks are needed nowhere but between two NUMBERS. */
    static void noBlanks() {
        taken("f1 1;t0 1,0,0,0,0,0;e1;t0 1,0,0,0,0,0;", 2);
    }

    /** Section 1: "anywhere but within NUMBERS". */
    static void blankWithinNumber() {
        fault("f1 1;e1 0;", 1, 8);
        fault("f1 1;t0 2 0,0,0,0,0,0;", 1, 10);
        fault("f1 1;t0 1,1 0,0,0,0,0;", 1, 12);
        fault("f1 2 0;", 1, 5);
    }

    /** Section 1: "two NUMBERS side by side need one": without it they are one NUMBER. */
    static void blankBetweenNumbers() {
        fault("f52;", 2, 1);
        fault("f11;", 1, 3);
        fault("f1 1;t01,0,0,0,0,0;", 1, 8);
        fault("f1 1;t020,0,0,0,0,0;", 2, 6);
    }

    /** Section 1: "blanks (32)": no other letter is a blank. */
    static void onlyOneBlank() {
        for (int letter : new int[] {0, 9, 10, 13, 31, 33, 95, 160}) {
            fault("f1 1;" + (char) letter, 1, 5);
            fault("f1" + (char) letter + "1;", 1, 2);
            fault((char) letter + "f1 1;", 1, 0);
        }
    }

    /** Section 1: "a word is one letter". */
    static void wordOfTwoLetters() {
        fault("ff1 1;", 1, 1);
        fault("fi1 1;", 1, 1);
        fault("f1 1;tr0 1,0,0,0,0,0;", 1, 6);
        fault("f1 1;ee1;", 1, 6);
    }

    /** Section 1, NUMBERS are of figures alone: the letters beside '0' and '9', and signs, are none. */
    static void lettersBesideFigures() {
        fault("f/ 1;", 1, 1);
        fault("f: 1;", 1, 1);
        fault("f+1 1;", 1, 1);
        fault("f-1 1;", 1, 1);
        fault("f1.0 1;", 1, 2);
        fault("f" + (char) 178 + " 1;", 1, 1);
    }

    // ---- Section 1: FAULTS and their places

    /** Section 1, FAULT 1: "a letter that is no word", first and behind a clause. */
    static void letterThatIsNoWord() {
        fault("x", 1, 0);
        fault("F1 1;", 1, 0);
        fault("f1 1;T0 1,0,0,0,0,0;", 1, 5);
        fault("f1 1;E1;", 1, 5);
        fault("f1 1;;", 1, 5);
        fault("f1 1;,", 1, 5);
        fault("f1 1;1", 1, 5);
        fault("f1 1; g", 1, 6);
    }

    /** Section 1, FAULT 1: "another letter where a ',' or ';' is due". */
    static void otherLetterWhereASignIsDue() {
        fault("f1 1,", 1, 4);
        fault("f1 1:", 1, 4);
        fault("f1 1;e1,", 1, 7);
        fault("f1 1;t0 1;0,0,0,0,0;", 1, 9);
        fault("f1 1;t0 1.0,0,0,0,0;", 1, 9);
        fault("f1 1;t0 1,0,0,0,0,0,", 1, 19);
    }

    /** Section 1, FAULT 1: a letter where a NUMBER is due "cannot stand there". */
    static void otherLetterWhereANumberIsDue() {
        fault("f;", 1, 1);
        fault("f1;", 1, 2);
        fault("f1,1;", 1, 2);
        fault("f1 1;e;", 1, 6);
        fault("f1 1;t;", 1, 6);
        fault("f1 1;t0 1,t", 1, 10);
        fault("f1 1;t0 1,0,0,0,0,;", 1, 18);
    }

    /** Section 1: "the end at the text's length", wherever a clause breaks off. */
    static void textThatBreaksOff() {
        String whole = "f1 1;t0 1,0,0,0,0,0;e1;";
        for (int length = 1; length < whole.length(); length++) {
            String text = whole.substring(0, length);
            if (text.endsWith(";")) {
                taken(text, length > 5 ? 1 : 0);
            } else {
                fault(text, 1, length);
            }
        }
    }

    /** Section 1: "the end at the text's length": blanks behind are of the text. */
    static void textThatBreaksOffInBlanks() {
        fault("f   ", 1, 4);
        fault("f1  ", 1, 4);
        fault("f1 1  ", 1, 6);
        fault("f1 1;e  ", 1, 8);
    }

    /** Section 1, FAULT 2: "(at its first)": its first figure, behind blanks. */
    static void faultTwoAtItsFirstFigure() {
        fault("f   999 1;", 2, 4);
        fault("f1    12345;", 2, 6);
        fault("f1 1; e  031;", 2, 9);
    }

    /** Section 1, FAULT 2 stands ahead of what follows the NUMBER, be it the text's end. */
    static void faultTwoAheadOfTheEnd() {
        fault("f21", 2, 1);
        fault("f1 4", 2, 3);
        fault("f1 1;e0", 2, 6);
        fault("f1 1;t0 1,32", 2, 10);
    }

    /** Section 1: "at the first letter that has one": of several the first place, whatever the numbers. */
    static void firstOfSeveralFaults() {
        fault("f0 9;x", 2, 1);
        fault("f1 1;f0 0;x", 3, 5);
        fault("f1 1;x f", 1, 5);
        fault("f1 9 x", 2, 3);
        fault("f1 1;e0 x", 2, 6);
    }

    /** Section 1: "of these the least": FAULTS 1 and 2 at one letter. */
    static void leastOfFaultsOneAndTwo() {
        fault("f1 1 12345;", 1, 5);
        fault("12345", 1, 0);
        fault("f1 1;e1 9999;", 1, 8);
    }

    /** Section 1: "of these the least": FAULTS 1 and 3 at one letter. */
    static void leastOfFaultsOneAndThree() {
        fault("f1 1 f", 1, 5);
        fault("ff", 1, 1);
        fault("f1 1;" + "e1;".repeat(5) + "e1 e", 1, 23);
        fault("f1 1;" + NO_SHAPE.repeat(5) + "t0 1 t", 1, 85);
    }

    /** Section 1: "An empty text": no KITCHEN, also where there was one. */
    static void emptyText() {
        SuetTroubles x = Check.of(Check.FIVE);
        Check.due("kitchen()", x.kitchen(), 0);
        Check.due("fault()", x.fault(), Check.NONE);
        Check.due("hour(1)", x.hour(1), Check.NOT);
        Check.due("drift(1)", x.drift(1), Check.NOT);
        Check.due("rest()", x.rest(), Check.NOT);
        for (int what = 0; what <= 18; what++) {
            Check.due("told(" + what + ")", x.told(what), what == 12 || what == 16 ? Check.NONE : 0);
        }
        Check.due("trouble(0, 0)", x.trouble(0, 0), Check.UNKNOWN);
        Check.due("eater(0, 0)", x.eater(0, 0), Check.UNKNOWN);
    }

    /** Section 1: "(or one of blanks alone)": one blank, and as many as there can be. */
    static void blanksAlone() {
        for (int many : new int[] {1, 240}) {
            SuetTroubles x = Check.of("f1 1;e1;");
            Check.due("kitchen of " + many + " blanks", Check.read(x, " ".repeat(many)), 0);
            Check.due("fault()", x.fault(), Check.NONE);
            Check.due("rest()", x.rest(), Check.NOT);
            Check.due("eaters", x.told(3), 0);
        }
    }

    // ---- Promise 3

    /** Promise 3: "THE TEXT (it is empty then)". */
    static void textIsEmptyThen() {
        SuetTroubles x = Check.of("f1 1;e1;");
        Check.due("letters", x.told(4), 0);
        Check.due("feed('f')", x.feed('f'), 1);
    }

    /** Promise 3: "(it is empty then, with a FAULT, too)". */
    static void textIsEmptyWithAFault() {
        SuetTroubles x = new SuetTroubles();
        Check.read(x, "f1 1;x");
        Check.due("letters", x.told(4), 0);
        Check.due("the next text alone counts", Check.read(x, "f2 2;"), 0);
        Check.due("H", x.told(0), 2);
    }

    /** Promise 3: "-10 less the number of its FAULT". */
    static void numberOfTheFault() {
        SuetTroubles x = new SuetTroubles();
        Check.due("1", Check.read(x, "x"), -11);
        Check.due("2", Check.read(x, "f0"), -12);
        Check.due("3", Check.read(x, "f1 1;f"), -13);
    }

    /** Promise 3: "how many TROUBLES": none, and six. */
    static void howManyTroubles() {
        taken("f1 1;e1;e1;", 0);
        taken("f1 1;" + NO_SHAPE.repeat(6) + "e1;", 6);
    }

    /** A kitchen in which all has happened that a new one must forget. */
    private static SuetTroubles used() {
        SuetTroubles x = Check.of(Check.FIVE);
        x.seed(99);
        x.cut(0, 0);
        x.wrap(4);
        x.putOn(4);
        x.hour(3);
        x.keep(0);
        x.keep(1);
        x.bear(4);
        x.wrap(1);
        x.putOn(1);
        x.hour(1);
        x.bump(3, false);
        x.write(0, 3);
        return x;
    }

    /** Promise 3: "HOUR 0, all raw, HARD, SHAPES as told, no LOADS, SHEETS; no BUMPS, no BOOK", as a first kitchen. */
    static void kitchenAnewIsAsTold() {
        SuetTroubles x = used();
        Check.due("kitchen again", Check.read(x, Check.FIVE), 5);
        int[] anew = Picture.of(x);
        int[] first = Picture.of(Check.of(Check.FIVE));
        for (int k = 0; k < anew.length; k++) {
            Check.due("answer " + k + " of the picture", anew[k], first[k]);
        }
    }

    /** Promise 3: "IMAGES .. are gone". */
    static void kitchenAnewHasNoImages() {
        SuetTroubles x = used();
        Check.read(x, Check.FIVE);
        Check.due("goBack(0)", x.goBack(0), Check.NOT);
        Check.due("goBack(1)", x.goBack(1), Check.NOT);
    }

    /** Promise 3: "what could be undone are gone". */
    static void kitchenAnewHasNothingUndone() {
        SuetTroubles x = used();
        Check.read(x, Check.FIVE);
        Check.due("told(18)", x.told(18), 0);
        Check.due("undo()", x.undo(), Check.NOT);
    }

    /** Promise 3: "THE SEED stays", also behind an empty text. */
    static void kitchenAnewHasTheSeed() {
        SuetTroubles x = used();
        Check.read(x, Check.FIVE);
        Check.due("seed(7)", x.seed(7), 99);
        x.kitchen();
        Check.due("seed(8)", x.seed(8), 7);
    }

    /** Promise 3: IMAGES and what could be undone are gone behind an empty text too. */
    static void emptyTextForgetsThePast() {
        SuetTroubles x = used();
        x.kitchen();
        Check.due("goBack(0)", x.goBack(0), Check.NOT);
        Check.due("goBack(1)", x.goBack(1), Check.NOT);
        Check.due("undo()", x.undo(), Check.NOT);
        Check.due("tear()", x.tear(), 0);
    }

    /** Promise 3: an IMAGE that was kept ahead of the first KITCHEN is gone by it. */
    static void imageAheadOfTheFirstKitchen() {
        SuetTroubles x = new SuetTroubles();
        x.keep(0);
        Check.read(x, "f1 1;");
        Check.due("goBack(0)", x.goBack(0), Check.NOT);
    }

    /** Promise 3: "(all else is as it was)": with a FAULT nothing but THE TEXT and its FAULT is otherwise. */
    static void faultChangesNothingElse() {
        for (String text : new String[] {"x", "f0", "f20 3;t0 7,1,1,1,1,1;e5;f"}) {
            SuetTroubles x = used();
            SuetTroubles same = used();
            Check.holds("a fault", Check.read(x, text) < -10);
            int[] now = Picture.of(x);
            int[] due = Picture.of(same);
            for (int k = 0; k < due.length - 1; k++) {
                Check.due("answer " + k + " of the picture", now[k], due[k]);
            }
            Check.due("undo()", x.undo(), same.undo());
            Check.due("hours", x.told(5), same.told(5));
            Check.due("goBack(1)", x.goBack(1), 1);
            Check.due("the seed", x.seed(0), 99);
        }
    }

    /** Promise 3: a FAULT on a new object leaves it without a KITCHEN. */
    static void faultOnANewObject() {
        SuetTroubles x = new SuetTroubles();
        Check.read(x, "f1 1;t0 1,0,0,0,0,0;e1;e1");
        Check.due("H", x.told(0), 0);
        Check.due("troubles", x.told(2), 0);
        Check.due("eaters", x.told(3), 0);
        Check.due("rest()", x.rest(), Check.NOT);
    }

    /** Promise 3: a KITCHEN of fewer has none of what was more in the last one. */
    static void smallerKitchen() {
        SuetTroubles x = Check.of(Check.FIVE);
        Check.due("kitchen()", Check.read(x, "f1 1;t0 1,0,0,0,0,0;e1;"), 1);
        Check.due("trouble(1, 0)", x.trouble(1, 0), Check.UNKNOWN);
        Check.due("eater(1, 0)", x.eater(1, 0), Check.UNKNOWN);
        Check.due("strength", x.told(11), 1);
        Check.due("pairs", x.told(15), 25);
    }

    /** Promise 3: "all raw .. no LOADS": each of six TROUBLES and six EATERS, the first and the last too. */
    static void kitchenAnewOfSix() {
        String text = "f20 3;" + "t0 1,1,0,0,0,0;".repeat(6) + "e1;".repeat(6);
        SuetTroubles x = Check.of(text);
        for (int t = 0; t < 6; t++) {
            x.wrap(t);
            x.putOn(t);
            x.hour(1);
            x.bear(t);
        }
        Check.due("borne", x.told(8), 63);
        Check.due("left", x.told(11), 0);
        Check.read(x, text);
        for (int k = 0; k < 6; k++) {
            Check.due("raw " + k, x.trouble(k, 3), 0);
            Check.due("hard " + k, x.trouble(k, 1), 1);
            Check.due("load " + k, x.eater(k, 1), 0);
        }
    }

    // ---- Promise 4

    /** Promise 4: "NONE": ahead of the first kitchen(). */
    static void noFaultAtFirst() {
        SuetTroubles x = new SuetTroubles();
        Check.feedAll(x, "x");
        Check.due("fault()", x.fault(), Check.NONE);
    }

    /** Promise 4: "of the latest kitchen()": a later FAULT's place, NONE when there is none, also by an empty text. */
    static void faultOfTheLatestKitchen() {
        SuetTroubles x = new SuetTroubles();
        Check.read(x, "f1 1;x");
        Check.due("the first", x.fault(), 5);
        Check.feedAll(x, "f0");
        Check.due("letters do not change it", x.fault(), 5);
        x.kitchen();
        Check.due("the second", x.fault(), 1);
        Check.read(x, "f1 1;");
        Check.due("none then", x.fault(), Check.NONE);
        Check.read(x, "x");
        Check.due("at the first letter", x.fault(), 0);
        x.kitchen();
        Check.due("none by an empty text", x.fault(), Check.NONE);
    }
}
