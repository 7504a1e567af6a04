import java.util.ArrayDeque;
import java.util.ArrayList;
import java.util.Arrays;
import java.util.Deque;
import java.util.HashMap;
import java.util.List;
import java.util.Map;

/** The document once more, in the slowest and plainest way, to compare the class with over random runs. */
final class NaiveSuet {
    private static final int NONE = -1, UNKNOWN = -1000000001, OUTSIDE = -1000000002, NOT = -1000000003, FULL = -1000000004;

    private static final class World implements Cloneable {
        int hours, sheets;
        List<int[]> troubles = new ArrayList<>(); // kind, hard, shape, stage
        List<int[]> eaters = new ArrayList<>();   // strength, load

        World copy() {
            World w = new World();
            w.hours = hours;
            w.sheets = sheets;
            for (int[] t : troubles) w.troubles.add(t.clone());
            for (int[] e : eaters) w.eaters.add(e.clone());
            return w;
        }
    }

    private static final class Fault extends Exception {
        private static final long serialVersionUID = 1L;
        final int number, at;

        Fault(int number, int at) {
            this.number = number;
            this.at = at;
        }
    }

    private String text = "";
    private int fire, pots, faultAt = NONE;
    private boolean is;
    private World world = new World();
    private final Deque<World> undo = new ArrayDeque<>();
    private final World[] image = new World[2];
    private final long[] imageSeed = new long[2];
    private final List<int[]> bumps = new ArrayList<>();
    private final List<int[]> book = new ArrayList<>();
    private long seed;

    // ---- the kitchen

    int feed(int letter) {
        if (letter < 0 || letter > 255) return OUTSIDE;
        if (text.length() == 240) return FULL;
        text += (char) letter;
        return text.length();
    }

    int kitchen() {
        String s = text;
        text = "";
        World w = new World();
        int[] f = new int[2];
        try {
            parse(s, w, f);
        } catch (Fault x) {
            faultAt = x.at;
            return -10 - x.number;
        }
        faultAt = NONE;
        is = f[0] != 0;
        fire = f[0];
        pots = f[1];
        world = w;
        bumps.clear();
        book.clear();
        undo.clear();
        image[0] = null;
        image[1] = null;
        return w.troubles.size();
    }

    /** Each clause by a list of what is due in it: a number's bounds, or a sign. */
    private static void parse(String s, World w, int[] f) throws Fault {
        int at = 0;
        boolean hadFire = false;
        while (true) {
            while (at < s.length() && s.charAt(at) == ' ') at++;
            if (at == s.length()) return;
            char word = s.charAt(at);
            String dues;
            if (!hadFire && word != 'f') throw new Fault(1, at);
            if (word == 'f') {
                if (hadFire) throw new Fault(3, at);
                dues = "1-20 1-3 ;";
            } else if (word == 't') {
                if (w.troubles.size() == 6) throw new Fault(3, at);
                dues = "0-3 1-200 , 0-31 , 0-31 , 0-31 , 0-31 , 0-31 ;";
            } else if (word == 'e') {
                if (w.eaters.size() == 6) throw new Fault(3, at);
                dues = "1-30 ;";
            } else {
                throw new Fault(1, at);
            }
            at++;
            List<Integer> numbers = new ArrayList<>();
            for (String due : dues.split(" ")) {
                while (at < s.length() && s.charAt(at) == ' ') at++;
                if (at == s.length()) throw new Fault(1, at);
                if (due.length() == 1) {
                    if (s.charAt(at) != due.charAt(0)) throw new Fault(1, at);
                    at++;
                } else {
                    int end = at;
                    while (end < s.length() && "0123456789".indexOf(s.charAt(end)) >= 0) end++;
                    if (end == at) throw new Fault(1, at);
                    if (end - at > 3) throw new Fault(2, at);
                    int v = Integer.parseInt(s.substring(at, end));
                    String[] bounds = due.split("-");
                    if (v < Integer.parseInt(bounds[0]) || v > Integer.parseInt(bounds[1])) throw new Fault(2, at);
                    numbers.add(v);
                    at = end;
                }
            }
            if (word == 'f') {
                hadFire = true;
                f[0] = numbers.get(0);
                f[1] = numbers.get(1);
            } else if (word == 'e') {
                w.eaters.add(new int[] {numbers.get(0), 0});
            } else {
                int shape = 0;
                for (int row = 4; row >= 0; row--) shape = shape * 32 + numbers.get(2 + row);
                w.troubles.add(new int[] {numbers.get(0), numbers.get(1), shape, 0});
            }
        }
    }

    int fault() {
        return faultAt;
    }

    int told(int what) {
        int[] all = {fire, pots, world.troubles.size(), world.eaters.size(), text.length(), world.hours,
            inStage(1), inStage(2), inStage(3), good(), world.sheets, left(), strongest(), bumps.size()};
        if (what >= 0 && what < all.length) return all[what];
        if (what == 14) {
            int set = 0;
            for (int[] pair : pairs()) set |= 1 << pair[0];
            return set;
        }
        if (what == 15) return pairs().size();
        if (what == 16) return weave();
        if (what == 17) return book.size();
        return what == 18 ? undo.size() : OUTSIDE;
    }

    private int inStage(int stage) {
        int set = 0;
        for (int t = 0; t < world.troubles.size(); t++) if (world.troubles.get(t)[3] == stage) set += 1 << t;
        return set;
    }

    private int good() {
        int set = 0;
        for (int t = 0; t < world.troubles.size(); t++) if (isGood(world.troubles.get(t))) set += 1 << t;
        return set;
    }

    private static boolean isGood(int[] t) {
        return t[1] == 0 && (t[3] == 1 || t[3] == 2);
    }

    private int left() {
        return world.eaters.stream().mapToInt(e -> e[0] - e[1]).sum();
    }

    private int strongest() {
        int best = NONE;
        int most = Integer.MIN_VALUE;
        for (int e = world.eaters.size() - 1; e >= 0; e--) {
            int left = world.eaters.get(e)[0] - world.eaters.get(e)[1];
            if (left >= most) {
                most = left;
                best = e;
            }
        }
        return best;
    }

    private static boolean[][] board(int shape) {
        boolean[][] b = new boolean[5][5];
        for (int k = 0; k < 25; k++) b[k / 5][k % 5] = (shape >> k & 1) == 1;
        return b;
    }

    /** All boards, as pairs of a trouble and its cells, that fit the bumps. */
    private List<int[]> pairs() {
        List<int[]> list = new ArrayList<>();
        for (int t = 0; t < world.troubles.size(); t++) {
            boolean[][] b = board(world.troubles.get(t)[2]);
            for (int r = 0; r < 5; r++) {
                for (int c = 0; c < 5; c++) {
                    int moved = 0;
                    boolean fits = true;
                    for (int k = 0; k < 25; k++) {
                        if (!b[k / 5][k % 5]) continue;
                        int y = k / 5 + r;
                        int x = k % 5 + c;
                        if (y > 4 || x > 4) fits = false;
                        else moved |= 1 << (5 * y + x);
                    }
                    for (int[] bump : bumps) if ((moved >> bump[0] & 1) != bump[1]) fits = false;
                    if (fits) list.add(new int[] {t, moved});
                }
            }
        }
        return list;
    }

    private int weave() {
        List<int[]> pairs = pairs();
        int best = NONE;
        int least = pairs.size();
        for (int cell = 0; cell < 25; cell++) {
            int full = 0;
            for (int[] pair : pairs) if ((pair[1] >> cell & 1) == 1) full++;
            int alike = full > pairs.size() - full ? full : pairs.size() - full;
            if (full > 0 && full < pairs.size() && alike < least) {
                least = alike;
                best = cell;
            }
        }
        return best;
    }

    int trouble(int t, int what) {
        if (t < 0 || t >= world.troubles.size()) return UNKNOWN;
        if (what < 0 || what > 8) return OUTSIDE;
        int[] it = world.troubles.get(t);
        if (what < 4) return it[what];
        boolean[][] b = board(it[2]);
        int[] parts = parts(b);
        if (what == 4) return parts[0];
        if (what == 5) return parts[1];
        if (what == 8) return weight(it) <= left() ? 1 : 0;
        int edge = 0;
        int hold = 0;
        for (int y = 0; y < 5; y++) {
            for (int x = 0; x < 5; x++) {
                if (!b[y][x]) continue;
                int open = (at(b, y - 1, x) ? 0 : 1) + (at(b, y + 1, x) ? 0 : 1) + (at(b, y, x - 1) ? 0 : 1) + (at(b, y, x + 1) ? 0 : 1);
                edge += open;
                if (open >= 3) hold += 1 << (5 * y + x);
            }
        }
        return what == 6 ? edge : hold;
    }

    private static boolean at(boolean[][] b, int y, int x) {
        return y >= 0 && x >= 0 && y < 5 && x < 5 && b[y][x];
    }

    private static int[] parts(boolean[][] b) {
        boolean[][] seen = new boolean[5][5];
        int[] out = new int[2];
        for (int k = 0; k < 25; k++) {
            int size = fill(b, seen, k / 5, k % 5);
            if (size > 0) out[0]++;
            out[1] = Math.max(out[1], size);
        }
        return out;
    }

    private static int fill(boolean[][] b, boolean[][] seen, int y, int x) {
        if (!at(b, y, x) || seen[y][x]) return 0;
        seen[y][x] = true;
        return 1 + fill(b, seen, y - 1, x) + fill(b, seen, y + 1, x) + fill(b, seen, y, x - 1) + fill(b, seen, y, x + 1);
    }

    private static int weight(int[] t) {
        return t[2] == 0 ? 1 : Integer.bitCount(t[2]);
    }

    int eater(int e, int what) {
        if (e < 0 || e >= world.eaters.size()) return UNKNOWN;
        return what == 0 || what == 1 ? world.eaters.get(e)[what] : OUTSIDE;
    }

    // ---- what is done

    private void remember() {
        undo.addLast(world.copy());
        if (undo.size() > 16) undo.removeFirst();
    }

    private boolean there(int t) {
        return t >= 0 && t < world.troubles.size();
    }

    int wrap(int t) {
        if (!there(t)) return UNKNOWN;
        if (world.troubles.get(t)[3] != 0) return NOT;
        remember();
        return doWrap(t);
    }

    private int doWrap(int t) {
        int n = world.troubles.get(t)[2] == 0 ? 1 : cover(world.troubles.get(t)[2])[0];
        world.sheets += n;
        world.troubles.get(t)[3] = 1;
        return n;
    }

    int putOn(int t) {
        if (!there(t)) return UNKNOWN;
        if (world.troubles.get(t)[3] != 1) return NOT;
        if (Integer.bitCount(inStage(2)) >= pots) return FULL;
        remember();
        world.troubles.get(t)[3] = 2;
        return pots - Integer.bitCount(inStage(2));
    }

    int takeOff(int t) {
        if (!there(t)) return UNKNOWN;
        if (world.troubles.get(t)[3] != 2) return NOT;
        remember();
        world.troubles.get(t)[3] = 1;
        return world.troubles.get(t)[1];
    }

    private int softer(int[] t, int hoursAhead) {
        int by = fire;
        if (t[0] == 1) by = fire / 2;
        if (t[0] == 2) by = fire - Integer.bitCount(t[2]) / 5;
        if (t[0] == 3 && hoursAhead % 2 == 0) by = 0;
        return Math.max(0, t[1] - Math.max(0, by));
    }

    private void oneHour() {
        for (int[] t : world.troubles) if (t[3] == 2) t[1] = softer(t, world.hours);
        world.hours++;
    }

    int hour(int n) {
        if (n < 1 || n > 60) return OUTSIDE;
        if (!is) return NOT;
        if (world.hours > 9000) return FULL;
        remember();
        while (n-- > 0) oneHour();
        return good();
    }

    int bear(int t) {
        if (!there(t)) return UNKNOWN;
        if (!bearable(t)) return NOT;
        remember();
        doBear(t);
        return left();
    }

    private boolean bearable(int t) {
        return isGood(world.troubles.get(t)) && weight(world.troubles.get(t)) <= left();
    }

    private void doBear(int t) {
        for (int k = weight(world.troubles.get(t)); k > 0; k--) world.eaters.get(strongest())[1]++;
        world.troubles.get(t)[3] = 3;
    }

    int rest() {
        if (!is) return NOT;
        remember();
        int all = 0;
        for (int[] e : world.eaters) {
            all += e[1];
            e[1] = 0;
        }
        return all;
    }

    int cut(int t, int cell) {
        if (!there(t)) return UNKNOWN;
        if (cell < 0 || cell > 24) return OUTSIDE;
        int[] it = world.troubles.get(t);
        if (it[3] != 0 || !board(it[2])[cell / 5][cell % 5] || Integer.bitCount(it[2]) == 1) return NOT;
        remember();
        world.troubles.get(t)[2] -= 1 << cell;
        return Integer.bitCount(world.troubles.get(t)[2]);
    }

    private int draw(int n) {
        seed = (seed * 1103515245L + 12345L) % 2147483648L;
        return (int) (seed / 65536 % n);
    }

    int drift(int n) {
        if (n < 1 || n > 60) return OUTSIDE;
        if (!is) return NOT;
        if (world.hours > 9000) return FULL;
        remember();
        for (int k = 0; k < n; k++) {
            if (!world.troubles.isEmpty()) {
                int deed = draw(5);
                int t = draw(world.troubles.size());
                int[] it = world.troubles.get(t);
                switch (deed) {
                    case 0 -> { if (it[3] == 0) doWrap(t); }
                    case 1 -> { if (it[3] == 1 && Integer.bitCount(inStage(2)) < pots) it[3] = 2; }
                    case 2 -> { if (it[3] == 2) it[3] = 1; }
                    case 3 -> { if (bearable(t)) doBear(t); }
                    default -> world.eaters.forEach(e -> e[1] = 0);
                }
            }
            oneHour();
        }
        return inStage(3);
    }

    int undo() {
        if (undo.isEmpty()) return NOT;
        world = undo.removeLast();
        return undo.size();
    }

    // ---- tried

    private static final List<int[]> ROWS_OF_SHEETS = rowsOfSheets();
    private static final Map<Integer, int[]> COVERS = new HashMap<>();

    /** All rows of sheets, rising, the shorter first, of like length the lesser: what each covers, length, first. */
    private static List<int[]> rowsOfSheets() {
        List<int[]> rows = new ArrayList<>();
        int[] cells = {0, 1, 2, 3, 5, 6, 7, 8, 10, 11, 12, 13, 15, 16, 17, 18};
        for (int set = 1; set < 65536; set++) {
            int covered = 0;
            int[] row = new int[3 + Integer.bitCount(set)];
            int n = 3;
            for (int k = 0; k < 16; k++) {
                if ((set >> k & 1) == 0) continue;
                row[n++] = cells[k];
                covered |= 1 << cells[k] | 1 << cells[k] + 1 | 1 << cells[k] + 5 | 1 << cells[k] + 6;
            }
            row[0] = covered;
            row[1] = Integer.bitCount(set);
            row[2] = row[3];
            rows.add(row);
        }
        rows.sort((a, b) -> a[1] != b[1] ? a[1] - b[1] : Arrays.compare(a, 3, a.length, b, 3, b.length));
        return rows;
    }

    private static int[] cover(int shape) {
        return COVERS.computeIfAbsent(shape, s -> {
            for (int[] row : ROWS_OF_SHEETS) if ((s & ~row[0]) == 0) return new int[] {row[1], row[2]};
            throw new IllegalStateException();
        });
    }

    int toWrap(int t, int what) {
        if (!there(t)) return UNKNOWN;
        if (what < 0 || what > 2) return OUTSIDE;
        int shape = world.troubles.get(t)[2];
        if (shape == 0) return NONE;
        if (what < 2) return cover(shape)[what];
        for (int side = 1; ; side++) {
            for (int y = 0; y + side <= 5; y++) {
                for (int x = 0; x + side <= 5; x++) {
                    int square = 0;
                    for (int k = 0; k < 25; k++) if (k / 5 >= y && k / 5 < y + side && k % 5 >= x && k % 5 < x + side) square |= 1 << k;
                    if ((shape & ~square) == 0) return side;
                }
            }
        }
    }

    int soft(int t, int n) {
        if (!there(t)) return UNKNOWN;
        if (n < 0 || n > 500) return OUTSIDE;
        int[] it = world.troubles.get(t).clone();
        for (int k = 0; k < n; k++) it[1] = softer(it, world.hours + k);
        return it[1];
    }

    int when(int t) {
        return there(t) ? hoursOf(t, world.hours) : UNKNOWN;
    }

    private int hoursOf(int t, int from) {
        int[] it = world.troubles.get(t).clone();
        for (int k = 0; k <= 500; k++) {
            if (it[1] == 0) return k;
            it[1] = softer(it, from + k);
        }
        return NONE;
    }

    int order(int set, int what) {
        for (int k = 0; k < 32; k++) if ((set >>> k & 1) == 1 && k >= world.troubles.size()) return UNKNOWN;
        if (what != 0 && what != 1) return OUTSIDE;
        List<Integer> who = new ArrayList<>();
        for (int k = 0; k < 6; k++) if ((set >> k & 1) == 1) who.add(k);
        for (int t : who) if (world.troubles.get(t)[3] != 1 && world.troubles.get(t)[3] != 2) return NOT;
        int best = Integer.MAX_VALUE;
        int figures = NONE;
        List<List<Integer>> all = new ArrayList<>();
        permute(new ArrayList<>(), who, all);
        for (List<Integer> row : all) {
            int elapsed = 0;
            int sum = 0;
            int number = 0;
            for (int t : row) {
                int needs = hoursOf(t, world.hours + elapsed);
                if (needs == NONE) return NONE;
                elapsed += needs;
                sum += elapsed;
                number = number * 10 + t + 1;
            }
            if (sum < best || sum == best && number < figures) {
                best = sum;
                figures = number;
            }
        }
        return what == 0 ? best : figures;
    }

    private static void permute(List<Integer> done, List<Integer> left, List<List<Integer>> into) {
        if (left.isEmpty()) into.add(new ArrayList<>(done));
        for (int k = left.size() - 1; k >= 0; k--) {
            Integer one = left.remove(k);
            done.add(one);
            permute(done, left, into);
            done.remove(done.size() - 1);
            left.add(k, one);
        }
    }

    int halves(int t, int what) {
        if (!there(t)) return UNKNOWN;
        if (what != 0 && what != 1) return OUTSIDE;
        boolean[][] b = board(world.troubles.get(t)[2]);
        if (world.troubles.get(t)[2] == 0) return NONE;
        int best = 0;
        int least = 99;
        for (int line : new int[] {1, 2, 3, 4, 11, 12, 13, 14}) {
            int ahead = 0;
            int behind = 0;
            for (int k = 0; k < 25; k++) {
                if (!b[k / 5][k % 5]) continue;
                boolean isAhead = line < 10 ? k / 5 < line : k % 5 < line - 10;
                if (isAhead) ahead++;
                else behind++;
            }
            if (Math.max(ahead, behind) < least) {
                least = Math.max(ahead, behind);
                best = line;
            }
        }
        return what == 0 ? best : least;
    }

    int mild(int n, int q) {
        if (n < 0 || n > 60 || q < 0 || q > 100) return OUTSIDE;
        return n == 0 ? 1000000000 : (int) ((long) mild(n - 1, q) * q / 100);
    }

    // ---- what is felt

    int bump(int cell, boolean full) {
        if (cell < 0 || cell > 24) return OUTSIDE;
        if (bumps.size() == 6) return FULL;
        bumps.add(new int[] {cell, full ? 1 : 0});
        return bumps.size();
    }

    int write(int t, int hard) {
        if (!there(t)) return UNKNOWN;
        if (hard < 0 || hard > 200) return OUTSIDE;
        if (book.size() == 15) return FULL;
        book.add(new int[] {t, hard});
        return book.size();
    }

    int tear() {
        int had = bumps.size() + book.size();
        bumps.clear();
        book.clear();
        return had;
    }

    int judge() {
        for (int k = 0; k < book.size(); k++) if (world.troubles.get(book.get(k)[0])[1] != book.get(k)[1]) return k;
        return NONE;
    }

    // ---- draws, images

    int seed(int v) {
        if (v < 0) return OUTSIDE;
        int was = (int) seed;
        seed = v;
        return was;
    }

    int keep(int i) {
        if (i != 0 && i != 1) return UNKNOWN;
        image[i] = world.copy();
        imageSeed[i] = seed;
        undo.clear();
        return 1;
    }

    int goBack(int i) {
        if (i != 0 && i != 1) return UNKNOWN;
        if (image[i] == null) return NOT;
        world = image[i].copy();
        seed = imageSeed[i];
        undo.clear();
        return 1;
    }
}
