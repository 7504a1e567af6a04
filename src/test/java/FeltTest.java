/** Promises 23 to 29: bump, write, tear, judge, seed, keep, goBack. */
public final class FeltTest {
    public static void main(String[] args) {
        bump();
        bumpsAgainstOneAnother();
        weaveByCut();
        write();
        tear();
        judge();
        seed();
        images();
        imagesOfNoKitchen();
        Check.end();
    }

    private static void bump() {
        SuetTroubles x = Check.of(Check.FIVE);
        Check.due("bump(-1)", x.bump(-1, true), Check.OUTSIDE);
        Check.due("bump(25)", x.bump(25, false), Check.OUTSIDE);
        Check.due("bump(0, false)", x.bump(0, false), 1);
        Check.due("which", x.told(14), 27);
        Check.due("pairs", x.told(15), 53);
        for (int k = 2; k <= 6; k++) {
            Check.due("bump(24, false)", x.bump(24, false), k);
        }
        Check.due("a seventh", x.bump(24, false), Check.FULL);
        Check.due("a seventh outside", x.bump(25, false), Check.OUTSIDE);
        Check.due("bumps", x.told(13), 6);
        Check.due("which", x.told(14), 27);
        Check.due("pairs", x.told(15), 14 + 3 + 25 + 8);
    }

    private static void bumpsAgainstOneAnother() {
        SuetTroubles x = Check.of(Check.FIVE);
        x.bump(7, true);
        x.bump(7, false);
        Check.due("which", x.told(14), 0);
        Check.due("pairs", x.told(15), 0);
        Check.due("weave", x.told(16), Check.NONE);
        SuetTroubles y = Check.of("f1 1;t0 1,0,0,0,0,0;t3 5,0,0,0,0,0;");
        Check.due("which without a cell", y.told(14), 3);
        Check.due("pairs without a cell", y.told(15), 50);
        Check.due("none parts them", y.told(16), Check.NONE);
        y.bump(3, false);
        Check.due("not full fits", y.told(15), 50);
        y.bump(4, true);
        Check.due("full does not", y.told(14), 0);
    }

    private static void weaveByCut() {
        SuetTroubles x = Check.of("f20 1;t0 1,3,3,0,0,0;t0 1,1,1,0,0,0;e9;");
        Check.due("pairs", x.told(15), 16 + 20);
        x.bump(0, true);
        Check.due("pairs at the corner", x.told(15), 2);
        Check.due("weave", x.told(16), 1);
        x.cut(0, 1);
        Check.due("weave when cut", x.told(16), 6);
        x.cut(0, 6);
        Check.due("alike now", x.told(16), Check.NONE);
        Check.due("both yet", x.told(14), 3);
        x.wrap(1);
        x.putOn(1);
        x.hour(1);
        x.bear(1);
        Check.due("a borne one fits too", x.told(14), 3);
    }

    private static void write() {
        SuetTroubles x = Check.of(Check.FIVE);
        Check.due("write(5, 999)", x.write(5, 999), Check.UNKNOWN);
        Check.due("write(0, -1)", x.write(0, -1), Check.OUTSIDE);
        Check.due("write(0, 201)", x.write(0, 201), Check.OUTSIDE);
        Check.due("write(0, 200)", x.write(0, 200), 1);
        Check.due("write(4, 0)", x.write(4, 0), 2);
        for (int k = 3; k <= 15; k++) {
            Check.due("write(1, 9)", x.write(1, 9), k);
        }
        Check.due("a sixteenth", x.write(1, 9), Check.FULL);
        Check.due("a sixteenth outside", x.write(1, 201), Check.OUTSIDE);
        Check.due("entries", x.told(17), 15);
        Check.due("write without a kitchen", new SuetTroubles().write(0, 0), Check.UNKNOWN);
    }

    private static void tear() {
        SuetTroubles x = Check.of(Check.FIVE);
        Check.due("tear() of nothing", x.tear(), 0);
        x.bump(0, true);
        x.bump(0, false);
        x.write(0, 7);
        Check.due("tear()", x.tear(), 3);
        Check.due("no bumps", x.told(13), 0);
        Check.due("no book", x.told(17), 0);
        Check.due("all fit", x.told(15), 56);
        Check.due("nothing is wrong", x.judge(), Check.NONE);
    }

    private static void judge() {
        SuetTroubles x = Check.of(Check.FIVE);
        Check.due("an empty book", x.judge(), Check.NONE);
        x.write(4, 1);
        x.write(4, 1);
        x.write(0, 20);
        Check.due("all right", x.judge(), Check.NONE);
        x.write(3, 11);
        x.write(2, 3);
        Check.due("the entry, not the trouble", x.judge(), 3);
        x.wrap(0);
        x.putOn(0);
        x.hour(1);
        Check.due("otherwise now", x.judge(), 2);
        x.undo();
        Check.due("undone", x.judge(), 3);
    }

    private static void seed() {
        SuetTroubles x = new SuetTroubles();
        Check.due("seed(-1)", x.seed(-1), Check.OUTSIDE);
        Check.due("seed(2147483647)", x.seed(2147483647), 0);
        Check.due("seed(Integer.MIN_VALUE)", x.seed(Integer.MIN_VALUE), Check.OUTSIDE);
        Check.due("seed(0)", x.seed(0), 2147483647);
        Check.due("seed(1)", x.seed(1), 0);
        SuetTroubles y = Check.of(Check.FIVE);
        y.seed(2147483647);
        y.drift(60);
        long v = 2147483647L;
        for (int k = 0; k < 120; k++) {
            v = (v * 1103515245L + 12345L) % 2147483648L;
        }
        Check.due("seed behind 60 hours", y.seed(1), (int) v);
    }

    private static void images() {
        SuetTroubles x = Check.of(Check.FIVE);
        Check.due("keep(2)", x.keep(2), Check.UNKNOWN);
        Check.due("keep(-1)", x.keep(-1), Check.UNKNOWN);
        Check.due("goBack(2)", x.goBack(2), Check.UNKNOWN);
        Check.due("goBack(-1)", x.goBack(-1), Check.UNKNOWN);
        Check.due("goBack(1)", x.goBack(1), Check.NOT);
        x.cut(0, 0);
        x.wrap(0);
        x.seed(42);
        Check.due("keep(1)", x.keep(1), 1);
        Check.due("nothing can be undone", x.told(18), 0);
        Check.due("goBack(0)", x.goBack(0), Check.NOT);
        x.putOn(0);
        x.hour(4);
        x.bear(0);
        x.seed(43);
        x.bump(0, true);
        x.write(0, 20);
        x.keep(0);
        x.hour(7);
        Check.due("goBack(1)", x.goBack(1), 1);
        Check.due("hours", x.told(5), 0);
        Check.due("wrapped", x.told(6), 1);
        Check.due("shape", x.trouble(0, 2), 98);
        Check.due("hard", x.trouble(0, 1), 20);
        Check.due("sheets", x.told(10), 1);
        Check.due("no loads", x.told(11), 15);
        Check.due("nothing can be undone", x.undo(), Check.NOT);
        Check.due("the seed", x.seed(44), 42);
        Check.due("bumps stay", x.told(13), 1);
        Check.due("the book stays", x.told(17), 1);
        Check.due("goBack(0)", x.goBack(0), 1);
        Check.due("hours", x.told(5), 4);
        Check.due("borne", x.told(8), 1);
        Check.due("loads", x.eater(1, 1), 3);
        Check.due("the seed", x.seed(0), 43);
        x.rest();
        Check.due("goBack(0) again", x.goBack(0), 1);
        Check.due("loads", x.eater(1, 1), 3);
    }

    private static void imagesOfNoKitchen() {
        SuetTroubles x = new SuetTroubles();
        x.seed(8);
        Check.due("keep(0)", x.keep(0), 1);
        x.seed(9);
        Check.due("goBack(0)", x.goBack(0), 1);
        Check.due("the seed", x.seed(0), 8);
        Check.due("no kitchen yet", x.rest(), Check.NOT);
    }
}
