/** Troubles wrapped in suet, boiled till they are good, and borne: see README.md. */
public final class SuetTroubles {
    public static final int NONE = -1, UNKNOWN = -1000000001, OUTSIDE = -1000000002, NOT = -1000000003, FULL = -1000000004;

    private static final int MOST_LETTERS = 240, MOST_TROUBLES = 6, MOST_EATERS = 6;
    private static final int MOST_BUMPS = 6, MOST_ENTRIES = 15, MOST_UNDONE = 16, IMAGES = 2;
    private static final int MOST_AT_ONCE = 60, LATEST_HOUR = 9000, MOST_SHEETS = 999999, MOST_TRIED = 500;
    private static final int HARDEST = 200, MOST_DAYS = 60, HUNDRED = 100, BILLION = 1000000000;
    private static final int SIDE = 5, CELLS = 25;
    private static final int RAW = 0, WRAPPED = 1, ON = 2, BORNE = 3;
    private static final int PLAIN = 0, OLD = 1, WAR = 2, ABSENCE = 3;

    private final Reader reader;
    private final Plan draft;
    private final Deeds deeds;
    private final Plan plan;
    private final Scene scene;
    private final Sheets sheets;
    private final Draws draws;
    private final Past past;
    private final Orders orders;
    private final Cloth cloth;
    private final Book book;
    private int faultAt;

    public SuetTroubles() {
        reader = new Reader();
        draft = new Plan();
        deeds = new Deeds();
        plan = deeds.plan;
        scene = deeds.scene;
        sheets = deeds.sheets;
        draws = deeds.draws;
        past = new Past();
        orders = new Orders();
        cloth = new Cloth();
        book = new Book();
        faultAt = NONE;
    }

    // ---- the kitchen

    public int feed(int letter) {
        if (letter < 0 || letter > 255) {
            return OUTSIDE;
        }
        if (reader.length >= MOST_LETTERS) {
            return FULL;
        }
        return reader.add(letter);
    }

    public int kitchen() {
        int fault = reader.read(draft);
        faultAt = reader.faultAt;
        if (fault != 0) {
            return -10 - fault;
        }
        plan.become(draft);
        scene.begin(plan);
        past.forgetAll();
        cloth.clear();
        book.clear();
        return plan.troubles;
    }

    public int fault() {
        return faultAt;
    }

    public int told(int what) {
        switch (what) {
            case 0: return plan.fire;
            case 1: return plan.pots;
            case 2: return plan.troubles;
            case 3: return plan.eaters;
            case 4: return reader.length;
            case 5: return scene.hours;
            case 6: return deeds.allThatAre(WRAPPED);
            case 7: return deeds.allThatAre(ON);
            case 8: return deeds.allThatAre(BORNE);
            case 9: return deeds.allGood();
            case 10: return scene.sheets;
            case 11: return deeds.leftTogether();
            case 12: return deeds.strongest();
            case 13: return cloth.bumps;
            case 14: return cloth.within(plan, scene);
            case 15: return cloth.pairs(plan, scene);
            case 16: return cloth.weave(plan, scene);
            case 17: return book.entries;
            case 18: return past.size;
            default: return OUTSIDE;
        }
    }

    public int trouble(int t, int what) {
        if (!plan.hasTrouble(t)) {
            return UNKNOWN;
        }
        int shape = scene.shape[t];
        switch (what) {
            case 0: return plan.kind[t];
            case 1: return scene.hard[t];
            case 2: return shape;
            case 3: return scene.stage[t];
            case 4: return Shapes.parts(shape);
            case 5: return Shapes.greatestPart(shape);
            case 6: return Shapes.edge(shape);
            case 7: return Shapes.hold(shape);
            case 8: return deeds.isBearable(t) ? 1 : 0;
            default: return OUTSIDE;
        }
    }

    public int eater(int e, int what) {
        if (!plan.hasEater(e)) {
            return UNKNOWN;
        }
        switch (what) {
            case 0: return plan.strength[e];
            case 1: return scene.load[e];
            default: return OUTSIDE;
        }
    }

    // ---- what is done

    public int wrap(int t) {
        if (!plan.hasTrouble(t)) {
            return UNKNOWN;
        }
        if (!deeds.canBeWrapped(t)) {
            return NOT;
        }
        past.remember(scene);
        return deeds.putInSuet(t);
    }

    public int putOn(int t) {
        if (!plan.hasTrouble(t)) {
            return UNKNOWN;
        }
        if (scene.stage[t] != WRAPPED) {
            return NOT;
        }
        if (deeds.freePots() <= 0) {
            return FULL;
        }
        past.remember(scene);
        scene.stage[t] = ON;
        return deeds.freePots();
    }

    public int takeOff(int t) {
        if (!plan.hasTrouble(t)) {
            return UNKNOWN;
        }
        if (scene.stage[t] != ON) {
            return NOT;
        }
        past.remember(scene);
        scene.stage[t] = WRAPPED;
        return scene.hard[t];
    }

    public int hour(int n) {
        int refusal = refusalOfHours(n);
        if (refusal != 0) {
            return refusal;
        }
        past.remember(scene);
        for (int k = 0; k < n; k++) {
            deeds.boil();
        }
        return deeds.allGood();
    }

    public int bear(int t) {
        if (!plan.hasTrouble(t)) {
            return UNKNOWN;
        }
        if (!deeds.canBeBorne(t)) {
            return NOT;
        }
        past.remember(scene);
        deeds.shareOut(t);
        return deeds.leftTogether();
    }

    public int rest() {
        if (!plan.isThere()) {
            return NOT;
        }
        past.remember(scene);
        return deeds.unload();
    }

    public int cut(int t, int cell) {
        if (!plan.hasTrouble(t)) {
            return UNKNOWN;
        }
        if (cell < 0 || cell >= CELLS) {
            return OUTSIDE;
        }
        if (scene.stage[t] != RAW || !Shapes.has(scene.shape[t], cell) || scene.shape[t] == (1 << cell)) {
            return NOT;
        }
        past.remember(scene);
        scene.shape[t] &= ~(1 << cell);
        return Integer.bitCount(scene.shape[t]);
    }

    public int drift(int n) {
        int refusal = refusalOfHours(n);
        if (refusal != 0) {
            return refusal;
        }
        past.remember(scene);
        for (int k = 0; k < n; k++) {
            deeds.actByDraws();
            deeds.boil();
        }
        return deeds.allThatAre(BORNE);
    }

    public int undo() {
        if (past.size <= 0) {
            return NOT;
        }
        past.stepBack(scene);
        return past.size;
    }

    // HOURS may pass 9000 within one call: the document refuses only a call that finds them above it.
    private int refusalOfHours(int n) {
        if (n < 1 || n > MOST_AT_ONCE) {
            return OUTSIDE;
        }
        if (!plan.isThere()) {
            return NOT;
        }
        return scene.hours > LATEST_HOUR ? FULL : 0;
    }

    // ---- tried

    public int toWrap(int t, int what) {
        if (!plan.hasTrouble(t)) {
            return UNKNOWN;
        }
        if (what < 0 || what > 2) {
            return OUTSIDE;
        }
        int shape = scene.shape[t];
        if (shape == 0) {
            return NONE;
        }
        if (what == 0) {
            return sheets.fewest(shape);
        }
        return what == 1 ? sheets.first(shape) : Shapes.squareSide(shape);
    }

    public int soft(int t, int n) {
        if (!plan.hasTrouble(t)) {
            return UNKNOWN;
        }
        if (n < 0 || n > MOST_TRIED) {
            return OUTSIDE;
        }
        return deeds.hardBehind(t, n);
    }

    public int when(int t) {
        if (!plan.hasTrouble(t)) {
            return UNKNOWN;
        }
        return deeds.hoursTillGood(t, scene.hours);
    }

    public int order(int set, int what) {
        if ((set & ~plan.allTroubles()) != 0) {
            return UNKNOWN;
        }
        if (what < 0 || what > 1) {
            return OUTSIDE;
        }
        if ((set & ~(deeds.allThatAre(WRAPPED) | deeds.allThatAre(ON))) != 0) {
            return NOT;
        }
        orders.find(set, deeds, scene.hours);
        return what == 0 ? orders.sum : orders.figures;
    }

    public int halves(int t, int what) {
        if (!plan.hasTrouble(t)) {
            return UNKNOWN;
        }
        if (what < 0 || what > 1) {
            return OUTSIDE;
        }
        int shape = scene.shape[t];
        if (shape == 0) {
            return NONE;
        }
        int line = Shapes.halvingLine(shape);
        return what == 0 ? line : Shapes.greaterHalf(shape, line);
    }

    public int mild(int n, int q) {
        if (n < 0 || n > MOST_DAYS || q < 0 || q > HUNDRED) {
            return OUTSIDE;
        }
        long odds = BILLION;
        for (int k = 0; k < n; k++) {
            odds = odds * q / HUNDRED;
        }
        return (int) odds;
    }

    // ---- what is felt

    public int bump(int cell, boolean is) {
        if (cell < 0 || cell >= CELLS) {
            return OUTSIDE;
        }
        if (cloth.bumps >= MOST_BUMPS) {
            return FULL;
        }
        return cloth.add(cell, is);
    }

    public int write(int t, int hard) {
        if (!plan.hasTrouble(t)) {
            return UNKNOWN;
        }
        if (hard < 0 || hard > HARDEST) {
            return OUTSIDE;
        }
        if (book.entries >= MOST_ENTRIES) {
            return FULL;
        }
        return book.add(t, hard);
    }

    public int tear() {
        int had = cloth.bumps + book.entries;
        cloth.clear();
        book.clear();
        return had;
    }

    public int judge() {
        return book.firstWrong(scene);
    }

    // ---- draws, images

    public int seed(int v) {
        if (v < 0) {
            return OUTSIDE;
        }
        int was = draws.value;
        draws.value = v;
        return was;
    }

    public int keep(int i) {
        if (i < 0 || i >= IMAGES) {
            return UNKNOWN;
        }
        past.keepImage(i, scene, draws);
        return 1;
    }

    public int goBack(int i) {
        if (i < 0 || i >= IMAGES) {
            return UNKNOWN;
        }
        if (!past.kept[i]) {
            return NOT;
        }
        past.showImage(i, scene, draws);
        return 1;
    }

    /** THE KITCHEN as it was told; FIRE 0 means that there is none. */
    private static final class Plan {
        int fire, pots, troubles, eaters;
        final int[] kind = new int[MOST_TROUBLES];
        final int[] hard = new int[MOST_TROUBLES];
        final int[] shape = new int[MOST_TROUBLES];
        final int[] strength = new int[MOST_EATERS];

        boolean isThere() {
            return fire > 0;
        }

        boolean hasTrouble(int t) {
            return t >= 0 && t < troubles;
        }

        boolean hasEater(int e) {
            return e >= 0 && e < eaters;
        }

        int allTroubles() {
            return (1 << troubles) - 1;
        }

        void clear() {
            fire = 0;
            pots = 0;
            troubles = 0;
            eaters = 0;
        }

        void addTrouble(int itsKind, int itsHard, int itsShape) {
            if (troubles < MOST_TROUBLES) {
                kind[troubles] = itsKind;
                hard[troubles] = itsHard;
                shape[troubles] = itsShape;
                troubles++;
            }
        }

        void addEater(int itsStrength) {
            if (eaters < MOST_EATERS) {
                strength[eaters] = itsStrength;
                eaters++;
            }
        }

        void become(Plan other) {
            fire = other.fire;
            pots = other.pots;
            troubles = other.troubles;
            eaters = other.eaters;
            System.arraycopy(other.kind, 0, kind, 0, MOST_TROUBLES);
            System.arraycopy(other.hard, 0, hard, 0, MOST_TROUBLES);
            System.arraycopy(other.shape, 0, shape, 0, MOST_TROUBLES);
            System.arraycopy(other.strength, 0, strength, 0, MOST_EATERS);
        }
    }

    /** THE TEXT, and how it is read into a plan up to its first FAULT. */
    private static final class Reader {
        private static final int CANNOT_STAND = 1, BAD_NUMBER = 2, TOO_MANY = 3;
        private static final int MOST_FIGURES = 3, MOST_VALUE = 999;
        private final int[] letters = new int[MOST_LETTERS];
        int length, faultAt;
        private int at, fault;

        int add(int letter) {
            if (length < MOST_LETTERS) {
                letters[length] = letter;
                length++;
            }
            return length;
        }

        int read(Plan into) {
            at = 0;
            fault = 0;
            faultAt = NONE;
            into.clear();
            skipBlanks();
            for (int k = 0; k < MOST_LETTERS && at < length && fault == 0; k++) {
                readClause(into);
                skipBlanks();
            }
            length = 0;
            return fault;
        }

        private void readClause(Plan into) {
            int word = here();
            if (word == 'f') {
                readFire(into);
            } else if (word == 't' && into.isThere()) {
                readTrouble(into);
            } else if (word == 'e' && into.isThere()) {
                readEater(into);
            } else {
                blame(CANNOT_STAND, at);
            }
        }

        private void readFire(Plan into) {
            if (into.isThere()) {
                blame(TOO_MANY, at);
                return;
            }
            at++;
            int fire = readNumber(1, 20);
            int pots = readNumber(1, 3);
            readSign(';');
            if (fault == 0) {
                into.fire = fire;
                into.pots = pots;
            }
        }

        private void readTrouble(Plan into) {
            if (into.troubles >= MOST_TROUBLES) {
                blame(TOO_MANY, at);
                return;
            }
            at++;
            int kind = readNumber(PLAIN, ABSENCE);
            int hard = readNumber(1, HARDEST);
            int shape = 0;
            for (int row = 0; row < SIDE; row++) {
                readSign(',');
                shape |= readNumber(0, 31) << (SIDE * row);
            }
            readSign(';');
            if (fault == 0) {
                into.addTrouble(kind, hard, shape);
            }
        }

        private void readEater(Plan into) {
            if (into.eaters >= MOST_EATERS) {
                blame(TOO_MANY, at);
                return;
            }
            at++;
            int strength = readNumber(1, 30);
            readSign(';');
            if (fault == 0) {
                into.addEater(strength);
            }
        }

        private int readNumber(int least, int most) {
            skipBlanks();
            if (!isFigure(here())) {
                blame(CANNOT_STAND, at);
                return 0;
            }
            int start = at;
            int value = 0;
            for (int k = start; k < length && isFigure(here()); k++) {
                value = Math.min(value * 10 + here() - '0', MOST_VALUE + 1);
                at++;
            }
            if (at - start > MOST_FIGURES || value < least || value > most) {
                blame(BAD_NUMBER, start);
                return 0;
            }
            return value;
        }

        private void readSign(int sign) {
            skipBlanks();
            if (here() == sign) {
                at++;
            } else {
                blame(CANNOT_STAND, at);
            }
        }

        private void skipBlanks() {
            for (int k = at; k < length && here() == ' '; k++) {
                at++;
            }
        }

        private int here() {
            return at >= 0 && at < length ? letters[at] : NONE;
        }

        private static boolean isFigure(int letter) {
            return letter >= '0' && letter <= '9';
        }

        // What is read behind the first FAULT may not move it.
        private void blame(int number, int place) {
            if (fault == 0) {
                fault = number;
                faultAt = place;
            }
        }
    }

    /** All of section 2: what changes by what is done. */
    private static final class Scene {
        int hours, sheets;
        final int[] stage = new int[MOST_TROUBLES];
        final int[] hard = new int[MOST_TROUBLES];
        final int[] shape = new int[MOST_TROUBLES];
        final int[] load = new int[MOST_EATERS];

        void begin(Plan plan) {
            hours = 0;
            sheets = 0;
            System.arraycopy(plan.hard, 0, hard, 0, MOST_TROUBLES);
            System.arraycopy(plan.shape, 0, shape, 0, MOST_TROUBLES);
            for (int t = 0; t < MOST_TROUBLES; t++) {
                stage[t] = RAW;
            }
            for (int e = 0; e < MOST_EATERS; e++) {
                load[e] = 0;
            }
        }

        void become(Scene other) {
            hours = other.hours;
            sheets = other.sheets;
            System.arraycopy(other.stage, 0, stage, 0, MOST_TROUBLES);
            System.arraycopy(other.hard, 0, hard, 0, MOST_TROUBLES);
            System.arraycopy(other.shape, 0, shape, 0, MOST_TROUBLES);
            System.arraycopy(other.load, 0, load, 0, MOST_EATERS);
        }
    }

    /** What is done to a scene, and what can be; callers have looked that the TROUBLE is there. */
    private static final class Deeds {
        final Plan plan = new Plan();
        final Scene scene = new Scene();
        final Sheets sheets = new Sheets();
        final Draws draws = new Draws();

        int allThatAre(int stage) {
            int set = 0;
            for (int t = 0; t < plan.troubles; t++) {
                if (scene.stage[t] == stage) {
                    set |= 1 << t;
                }
            }
            return set;
        }

        boolean isGood(int t) {
            return scene.hard[t] == 0 && (scene.stage[t] == WRAPPED || scene.stage[t] == ON);
        }

        int allGood() {
            int set = 0;
            for (int t = 0; t < plan.troubles; t++) {
                if (isGood(t)) {
                    set |= 1 << t;
                }
            }
            return set;
        }

        boolean canBeWrapped(int t) {
            return scene.stage[t] == RAW;
        }

        int putInSuet(int t) {
            int needed = scene.shape[t] == 0 ? 1 : sheets.fewest(scene.shape[t]);
            scene.stage[t] = WRAPPED;
            scene.sheets = Math.min(scene.sheets + needed, MOST_SHEETS);
            return needed;
        }

        int freePots() {
            return plan.pots - Integer.bitCount(allThatAre(ON));
        }

        int leftOf(int e) {
            return plan.strength[e] - scene.load[e];
        }

        int leftTogether() {
            int left = 0;
            for (int e = 0; e < plan.eaters; e++) {
                left += leftOf(e);
            }
            return left;
        }

        int strongest() {
            int best = NONE;
            for (int e = 0; e < plan.eaters; e++) {
                if (best == NONE || leftOf(e) > leftOf(best)) {
                    best = e;
                }
            }
            return best;
        }

        int weight(int t) {
            return Math.max(1, Integer.bitCount(scene.shape[t]));
        }

        boolean isBearable(int t) {
            return weight(t) <= leftTogether();
        }

        boolean canBeBorne(int t) {
            return isGood(t) && isBearable(t);
        }

        void shareOut(int t) {
            int weight = weight(t);
            for (int k = 0; k < weight; k++) {
                int e = strongest();
                if (e != NONE) {
                    scene.load[e]++;
                }
            }
            scene.stage[t] = BORNE;
        }

        int unload() {
            int all = 0;
            for (int e = 0; e < plan.eaters; e++) {
                all += scene.load[e];
                scene.load[e] = 0;
            }
            return all;
        }

        // An absence softens so only in HOURS with an odd number of others ahead.
        private int softenedBy(int t) {
            switch (plan.kind[t]) {
                case OLD: return plan.fire / 2;
                case WAR: return Math.max(0, plan.fire - Integer.bitCount(scene.shape[t]) / 5);
                default: return plan.fire;
            }
        }

        int hardBehind(int t, int n) {
            int counted = n;
            if (plan.kind[t] == ABSENCE) {
                counted = (n + scene.hours % 2) / 2;
            }
            return Math.max(0, scene.hard[t] - counted * softenedBy(t));
        }

        int hoursTillGood(int t, int startHour) {
            int hard = scene.hard[t];
            int by = softenedBy(t);
            if (hard == 0) {
                return 0;
            }
            if (by <= 0) {
                return NONE;
            }
            int needed = (hard + by - 1) / by;
            if (plan.kind[t] == ABSENCE) {
                needed = 2 * needed - startHour % 2;
            }
            return needed > MOST_TRIED ? NONE : needed;
        }

        void boil() {
            for (int t = 0; t < plan.troubles; t++) {
                if (scene.stage[t] == ON) {
                    scene.hard[t] = hardBehind(t, 1);
                }
            }
            scene.hours++;
        }

        void actByDraws() {
            if (plan.troubles <= 0) {
                return;
            }
            int deed = draws.draw(5);
            int t = draws.draw(plan.troubles);
            if (deed == 0 && canBeWrapped(t)) {
                putInSuet(t);
            } else if (deed == 1 && scene.stage[t] == WRAPPED && freePots() > 0) {
                scene.stage[t] = ON;
            } else if (deed == 2 && scene.stage[t] == ON) {
                scene.stage[t] = WRAPPED;
            } else if (deed == 3 && canBeBorne(t)) {
                shareOut(t);
            } else if (deed == 4) {
                unload();
            }
        }
    }

    /** What can be UNDONE, and the IMAGES. */
    private static final class Past {
        private final Scene[] undone = new Scene[MOST_UNDONE];
        private final Scene[] image = new Scene[IMAGES];
        private final int[] imageSeed = new int[IMAGES];
        final boolean[] kept = new boolean[IMAGES];
        private int oldest;
        int size;

        Past() {
            for (int k = 0; k < MOST_UNDONE; k++) {
                undone[k] = new Scene();
            }
            for (int i = 0; i < IMAGES; i++) {
                image[i] = new Scene();
            }
        }

        void remember(Scene scene) {
            undone[(oldest + size) % MOST_UNDONE].become(scene);
            if (size < MOST_UNDONE) {
                size++;
            } else {
                oldest = (oldest + 1) % MOST_UNDONE;
            }
        }

        void stepBack(Scene scene) {
            if (size > 0) {
                size--;
                scene.become(undone[(oldest + size) % MOST_UNDONE]);
            }
        }

        void keepImage(int i, Scene scene, Draws draws) {
            image[i].become(scene);
            imageSeed[i] = draws.value;
            kept[i] = true;
            forgetUndone();
        }

        void showImage(int i, Scene scene, Draws draws) {
            scene.become(image[i]);
            draws.value = imageSeed[i];
            forgetUndone();
        }

        void forgetAll() {
            forgetUndone();
            for (int i = 0; i < IMAGES; i++) {
                kept[i] = false;
            }
        }

        private void forgetUndone() {
            oldest = 0;
            size = 0;
        }
    }

    /** What a SHAPE, a SET of CELLS, tells by itself. */
    private static final class Shapes {
        private static final int BOARD = (1 << CELLS) - 1, FIRST_COLUMN = 0x108421, LAST_COLUMN = 0x1084210;
        private static final int SIDES = 4, ROW_OF_CELLS = 31;

        static boolean has(int set, int k) {
            return (set & (1 << k)) != 0;
        }

        // CELLS whose neighbour on that side (above, below, left, right) is in the SHAPE.
        private static int besideIt(int shape, int side) {
            switch (side) {
                case 0: return (shape << SIDE) & BOARD;
                case 1: return shape >> SIDE;
                case 2: return (shape & ~LAST_COLUMN) << 1;
                default: return (shape & ~FIRST_COLUMN) >> 1;
            }
        }

        private static int partFrom(int shape, int start) {
            int part = start;
            for (int k = 0; k < CELLS; k++) {
                int grown = part;
                for (int side = 0; side < SIDES; side++) {
                    grown |= besideIt(part, side) & shape;
                }
                if (grown == part) {
                    break;
                }
                part = grown;
            }
            return part;
        }

        static int parts(int shape) {
            int left = shape;
            int count = 0;
            for (int k = 0; k < CELLS && left != 0; k++) {
                left &= ~partFrom(shape, left & -left);
                count++;
            }
            return count;
        }

        static int greatestPart(int shape) {
            int left = shape;
            int most = 0;
            for (int k = 0; k < CELLS && left != 0; k++) {
                int part = partFrom(shape, left & -left);
                most = Math.max(most, Integer.bitCount(part));
                left &= ~part;
            }
            return most;
        }

        static int edge(int shape) {
            int count = 0;
            for (int side = 0; side < SIDES; side++) {
                count += Integer.bitCount(shape & ~besideIt(shape, side));
            }
            return count;
        }

        static int hold(int shape) {
            int set = 0;
            for (int cell = 0; cell < CELLS; cell++) {
                if (has(shape, cell) && openSides(shape, cell) >= 3) {
                    set |= 1 << cell;
                }
            }
            return set;
        }

        private static int openSides(int shape, int cell) {
            int count = 0;
            for (int side = 0; side < SIDES; side++) {
                if (!has(besideIt(shape, side), cell)) {
                    count++;
                }
            }
            return count;
        }

        static int rowOf(int shape, int row) {
            return (shape >> (SIDE * row)) & ROW_OF_CELLS;
        }

        private static int columnsUsed(int shape) {
            int set = 0;
            for (int row = 0; row < SIDE; row++) {
                set |= rowOf(shape, row);
            }
            return set;
        }

        private static int rowsUsed(int shape) {
            int set = 0;
            for (int row = 0; row < SIDE; row++) {
                if (rowOf(shape, row) != 0) {
                    set |= 1 << row;
                }
            }
            return set;
        }

        private static int firstOf(int line) {
            for (int k = 0; k < SIDE; k++) {
                if (has(line, k)) {
                    return k;
                }
            }
            return 0;
        }

        private static int lastOf(int line) {
            for (int k = SIDE - 1; k > 0; k--) {
                if (has(line, k)) {
                    return k;
                }
            }
            return 0;
        }

        static int squareSide(int shape) {
            int rows = rowsUsed(shape);
            int columns = columnsUsed(shape);
            return 1 + Math.max(lastOf(rows) - firstOf(rows), lastOf(columns) - firstOf(columns));
        }

        // A SHAPE without a CELL has all moves, as one in the upper left CELL has.
        static int movesDown(int shape) {
            return SIDE - lastOf(rowsUsed(shape));
        }

        static int movesRight(int shape) {
            return SIDE - lastOf(columnsUsed(shape));
        }

        static int greaterHalf(int shape, int line) {
            int ahead = line > 10 ? ((1 << (line - 10)) - 1) * FIRST_COLUMN : (1 << (SIDE * line)) - 1;
            int cellsAhead = Integer.bitCount(shape & ahead);
            return Math.max(cellsAhead, Integer.bitCount(shape) - cellsAhead);
        }

        static int halvingLine(int shape) {
            int best = 1;
            for (int k = 2; k < 2 * SIDE - 1; k++) {
                int line = k < SIDE ? k : k - SIDE + 11;
                if (greaterHalf(shape, line) < greaterHalf(shape, best)) {
                    best = line;
                }
            }
            return best;
        }
    }

    /** WRAP of a SHAPE, by ROWS of SHEETS: which of four stand in a ROW is a number below 16. */
    private static final class Sheets {
        private static final int A_ROW = 4, CHOICES = 16, TOO_MANY = 100;
        private int[] cost = new int[CHOICES];
        private int[] nextCost = new int[CHOICES];

        int fewest(int shape) {
            for (int choice = 0; choice < CHOICES; choice++) {
                cost[choice] = choice == 0 ? 0 : TOO_MANY;
            }
            for (int row = 0; row < A_ROW; row++) {
                addRow(Shapes.rowOf(shape, row));
                int[] old = cost;
                cost = nextCost;
                nextCost = old;
            }
            int best = TOO_MANY;
            int lastRow = Shapes.rowOf(shape, A_ROW);
            for (int choice = 0; choice < CHOICES; choice++) {
                if ((lastRow & ~covered(choice)) == 0) {
                    best = Math.min(best, cost[choice]);
                }
            }
            return best;
        }

        // A ROW of CELLS is covered by SHEETS that begin in the ROW above it, or in it.
        private void addRow(int cells) {
            for (int choice = 0; choice < CHOICES; choice++) {
                int open = cells & ~covered(choice);
                int best = TOO_MANY;
                for (int above = 0; above < CHOICES; above++) {
                    if ((open & ~covered(above)) == 0) {
                        best = Math.min(best, cost[above]);
                    }
                }
                nextCost[choice] = best + Integer.bitCount(choice);
            }
        }

        private static int covered(int choice) {
            return choice | (choice << 1);
        }

        // The least row of SHEETS begins with the least SHEET that stands in any row of the fewest.
        int first(int shape) {
            int best = fewest(shape);
            for (int row = 0; row < A_ROW; row++) {
                for (int column = 0; column < A_ROW; column++) {
                    int cell = SIDE * row + column;
                    int sheet = (3 << cell) | (3 << (cell + SIDE));
                    if ((shape & sheet) != 0 && fewest(shape & ~sheet) == best - 1) {
                        return cell;
                    }
                }
            }
            return NONE;
        }
    }

    /** ORDER of a SET of TROUBLES: all orders are tried, the least figures first. */
    private static final class Orders {
        private final int[] time = new int[2 * MOST_TROUBLES];
        int sum, figures;
        private int startHour;

        void find(int set, Deeds deeds, int hoursNow) {
            sum = NONE;
            figures = NONE;
            startHour = hoursNow;
            for (int t = 0; t < MOST_TROUBLES; t++) {
                if (Shapes.has(set, t)) {
                    time[2 * t] = deeds.hoursTillGood(t, 0);
                    time[2 * t + 1] = deeds.hoursTillGood(t, 1);
                    if (time[2 * t] == NONE || time[2 * t + 1] == NONE) {
                        return;
                    }
                }
            }
            tryNext(this, set, 0, 0, 0, 0);
        }

        private static void tryNext(Orders best, int set, int hours, int sum, int figures, int depth) {
            if (best.sum != NONE && sum >= best.sum) {
                return;
            }
            if (set == 0) {
                best.sum = sum;
                best.figures = figures;
                return;
            }
            if (depth >= MOST_TROUBLES) {
                return;
            }
            for (int t = 0; t < MOST_TROUBLES; t++) {
                if (Shapes.has(set, t)) {
                    int good = hours + best.time[2 * t + (best.startHour + hours) % 2];
                    tryNext(best, set & ~(1 << t), good, sum + good, 10 * figures + t + 1, depth + 1);
                }
            }
        }
    }

    /** BUMPS, and what is WITHIN by them. */
    private static final class Cloth {
        int bumps;
        private int full, notFull;
        private int withinSet, pairCount;
        private final int[] fullPairs = new int[CELLS];

        int add(int cell, boolean is) {
            if (is) {
                full |= 1 << cell;
            } else {
                notFull |= 1 << cell;
            }
            bumps++;
            return bumps;
        }

        void clear() {
            bumps = 0;
            full = 0;
            notFull = 0;
        }

        int within(Plan plan, Scene scene) {
            feelAll(plan, scene);
            return withinSet;
        }

        int pairs(Plan plan, Scene scene) {
            feelAll(plan, scene);
            return pairCount;
        }

        int weave(Plan plan, Scene scene) {
            feelAll(plan, scene);
            int best = NONE;
            int least = pairCount;
            for (int cell = 0; cell < CELLS; cell++) {
                int alike = Math.max(fullPairs[cell], pairCount - fullPairs[cell]);
                if (alike < least) {
                    least = alike;
                    best = cell;
                }
            }
            return best;
        }

        private void feelAll(Plan plan, Scene scene) {
            withinSet = 0;
            pairCount = 0;
            for (int cell = 0; cell < CELLS; cell++) {
                fullPairs[cell] = 0;
            }
            for (int t = 0; t < plan.troubles; t++) {
                int before = pairCount;
                feelMoves(scene.shape[t]);
                if (pairCount > before) {
                    withinSet |= 1 << t;
                }
            }
        }

        private void feelMoves(int shape) {
            int down = Shapes.movesDown(shape);
            int right = Shapes.movesRight(shape);
            for (int r = 0; r < down; r++) {
                for (int c = 0; c < right; c++) {
                    int moved = shape << (SIDE * r + c);
                    if ((full & ~moved) == 0 && (notFull & moved) == 0) {
                        countPair(moved);
                    }
                }
            }
        }

        private void countPair(int moved) {
            pairCount++;
            for (int cell = 0; cell < CELLS; cell++) {
                fullPairs[cell] += (moved >> cell) & 1;
            }
        }
    }

    /** THE BOOK: how HARD TROUBLES are said to be. */
    private static final class Book {
        int entries;
        private final int[] who = new int[MOST_ENTRIES];
        private final int[] said = new int[MOST_ENTRIES];

        int add(int t, int hard) {
            if (entries < MOST_ENTRIES) {
                who[entries] = t;
                said[entries] = hard;
                entries++;
            }
            return entries;
        }

        void clear() {
            entries = 0;
        }

        int firstWrong(Scene scene) {
            for (int k = 0; k < entries; k++) {
                if (scene.hard[who[k]] != said[k]) {
                    return k;
                }
            }
            return NONE;
        }
    }

    /** THE SEED and its DRAWS. */
    private static final class Draws {
        int value;

        int draw(int n) {
            value = (value * 1103515245 + 12345) & 0x7fffffff;
            return n > 0 ? (value / 65536) % n : 0;
        }
    }
}
