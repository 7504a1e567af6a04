import java.util.Random;

/** All promises together: random runs of calls, each answer compared with that of NaiveSuet. */
public final class RandomRunsTest {
    private static final int RUNS = 1200, CALLS = 500;

    private final Random random;
    private final SuetTroubles x = new SuetTroubles();
    private final NaiveSuet naive = new NaiveSuet();
    private final int run;
    private int calls;

    private RandomRunsTest(int run) {
        this.run = run;
        this.random = new Random(run);
    }

    public static void main(String[] args) {
        for (int run = 0; run < RUNS; run++) {
            new RandomRunsTest(run).go();
        }
        allShapes();
        Check.end();
    }

    private void go() {
        while (calls < CALLS) {
            String text = text();
            for (int k = 0; k < text.length(); k++) {
                feed(text.charAt(k));
            }
            due("kitchen()", x.kitchen(), naive.kitchen());
            due("fault()", x.fault(), naive.fault());
            int some = random.nextInt(5) == 0 ? 10 : 400;
            for (int k = 0; k < some && calls < CALLS; k++) {
                oneCall();
            }
        }
    }

    private void due(String call, int got, int want) {
        calls++;
        Check.due("run " + run + ", call " + calls + ": " + call, got, want);
    }

    private void feed(int letter) {
        due("feed(" + letter + ")", x.feed(letter), naive.feed(letter));
    }

    private String text() {
        if (random.nextInt(30) == 0) {
            return random.nextBoolean() ? "" : "  ";
        }
        boolean slow = random.nextInt(4) == 0;
        StringBuilder s = new StringBuilder("f").append(1 + random.nextInt(slow ? 4 : 20)).append(' ').append(1 + random.nextInt(3)).append(';');
        int troubles = random.nextInt(7);
        int eaters = random.nextInt(7);
        while (troubles + eaters > 0) {
            if (random.nextInt(troubles + eaters) < troubles) {
                troubles--;
                s.append('t').append(random.nextInt(4)).append(' ').append(1 + random.nextInt(random.nextBoolean() ? 200 : 20));
                int form = random.nextInt(4);
                for (int row = 0; row < 5; row++) {
                    s.append(',').append(rowOf(form));
                }
            } else {
                eaters--;
                s.append('e').append(1 + random.nextInt(30));
            }
            s.append(';');
        }
        if (random.nextInt(3) == 0) {
            spoil(s);
        }
        return s.length() > 240 ? s.substring(0, 240) : s.toString();
    }

    private int rowOf(int form) {
        switch (form) {
            case 0: return 0;
            case 1: return random.nextInt(32) & random.nextInt(32) & random.nextInt(32);
            case 2: return random.nextInt(32);
            default: return random.nextInt(32) | random.nextInt(32);
        }
    }

    private void spoil(StringBuilder s) {
        String signs = "  0123456789,;ftexF";
        for (int k = random.nextInt(3); k >= 0 && s.length() > 0; k--) {
            int at = random.nextInt(s.length());
            char sign = signs.charAt(random.nextInt(signs.length()));
            switch (random.nextInt(4)) {
                case 0: s.deleteCharAt(at); break;
                case 1: s.insert(at, sign); break;
                case 2: s.setCharAt(at, sign); break;
                default: s.insert(at, ' ');
            }
        }
    }

    private int about(int most) {
        if (random.nextInt(60) == 0) {
            int[] odd = {Integer.MIN_VALUE, Integer.MAX_VALUE, -1, most + 1, 31, 32, 64};
            return odd[random.nextInt(odd.length)];
        }
        return random.nextInt(most + 1);
    }

    private void oneCall() {
        int t = about(5);
        int n = 1 + about(random.nextInt(6) == 0 ? 60 : 4);
        int cell = about(24);
        switch (random.nextInt(34)) {
            case 0: case 1: case 2: due("wrap(" + t + ")", x.wrap(t), naive.wrap(t)); break;
            case 3: case 4: case 5: due("putOn(" + t + ")", x.putOn(t), naive.putOn(t)); break;
            case 6: due("takeOff(" + t + ")", x.takeOff(t), naive.takeOff(t)); break;
            case 7: case 8: due("hour(" + n + ")", x.hour(n), naive.hour(n)); break;
            case 9: case 10: due("bear(" + t + ")", x.bear(t), naive.bear(t)); break;
            case 11: due("rest()", x.rest(), naive.rest()); break;
            case 12: case 13: due("cut(" + t + ", " + cell + ")", x.cut(t, cell), naive.cut(t, cell)); break;
            case 14: due("drift(" + n + ")", x.drift(n), naive.drift(n)); break;
            case 15: case 16: due("undo()", x.undo(), naive.undo()); break;
            case 17: case 18: tryOne(t); break;
            case 19: order(); break;
            case 20: mild(); break;
            case 21: bump(cell); break;
            case 22: write(t); break;
            case 23: rare(); break;
            case 24: due("judge()", x.judge(), naive.judge()); break;
            case 25: image(); break;
            case 26: case 27: case 28: told(); break;
            case 29: case 30: case 31: trouble(t); break;
            case 32: eater(t); break;
            default: tryOne(t);
        }
    }

    private void tryOne(int t) {
        int what = about(2);
        int n = about(random.nextBoolean() ? 500 : 20);
        switch (random.nextInt(4)) {
            case 0: due("toWrap(" + t + ", " + what + ")", x.toWrap(t, what), naive.toWrap(t, what)); break;
            case 1: due("soft(" + t + ", " + n + ")", x.soft(t, n), naive.soft(t, n)); break;
            case 2: due("when(" + t + ")", x.when(t), naive.when(t)); break;
            default: due("halves(" + t + ", " + what + ")", x.halves(t, what), naive.halves(t, what));
        }
    }

    private void order() {
        int set = random.nextInt(3) == 0 ? about(63) : x.told(6) | x.told(7);
        int what = about(1);
        due("order(" + set + ", " + what + ")", x.order(set, what), naive.order(set, what));
    }

    private void mild() {
        int n = about(60);
        int q = about(100);
        due("mild(" + n + ", " + q + ")", x.mild(n, q), naive.mild(n, q));
    }

    private void bump(int cell) {
        boolean full = random.nextInt(3) == 0;
        due("bump(" + cell + ", " + full + ")", x.bump(cell, full), naive.bump(cell, full));
    }

    private void write(int t) {
        int hard = random.nextBoolean() && t >= 0 && t < 6 ? x.trouble(t, 1) : about(200);
        due("write(" + t + ", " + hard + ")", x.write(t, hard), naive.write(t, hard));
    }

    private void rare() {
        if (random.nextInt(3) == 0) {
            due("tear()", x.tear(), naive.tear());
        } else {
            int v = random.nextInt();
            due("seed(" + v + ")", x.seed(v), naive.seed(v));
        }
    }

    private void image() {
        int i = about(1);
        if (random.nextInt(3) == 0) {
            due("keep(" + i + ")", x.keep(i), naive.keep(i));
        } else if (random.nextInt(3) == 0) {
            due("goBack(" + i + ")", x.goBack(i), naive.goBack(i));
        }
    }

    private void told() {
        int what = about(18);
        due("told(" + what + ")", x.told(what), naive.told(what));
    }

    private void trouble(int t) {
        int what = about(8);
        due("trouble(" + t + ", " + what + ")", x.trouble(t, what), naive.trouble(t, what));
    }

    private void eater(int e) {
        int what = about(1);
        due("eater(" + e + ", " + what + ")", x.eater(e, what), naive.eater(e, what));
    }

    /** Many shapes, each with all that a shape tells. */
    private static void allShapes() {
        Random random = new Random(7);
        for (int k = 0; k < 4000; k++) {
            int shape = random.nextInt(1 << 25);
            if (k % 3 == 0) {
                shape &= random.nextInt(1 << 25);
            }
            if (k % 5 == 0) {
                shape |= random.nextInt(1 << 25);
            }
            StringBuilder s = new StringBuilder("f1 1;t0 1");
            for (int row = 0; row < 5; row++) {
                s.append(',').append(shape >> 5 * row & 31);
            }
            s.append(';');
            SuetTroubles x = Check.of(s.toString());
            NaiveSuet naive = new NaiveSuet();
            s.chars().forEach(naive::feed);
            naive.kitchen();
            for (int what = 2; what < 8; what++) {
                Check.due("trouble(0, " + what + ") of " + s, x.trouble(0, what), naive.trouble(0, what));
            }
            for (int what = 0; what < 3; what++) {
                Check.due("toWrap(0, " + what + ") of " + s, x.toWrap(0, what), naive.toWrap(0, what));
                Check.due("halves(0, " + what + ") of " + s, x.halves(0, what), naive.halves(0, what));
            }
        }
    }
}
