/** All that an object tells of its state by calls that change nothing: 93 calls. */
final class Picture {
    private static final int TOLD = 19, TROUBLES = 6, OF_A_TROUBLE = 9, EATERS = 6, OF_AN_EATER = 2;

    private Picture() {
    }

    static int[] of(SuetTroubles x) {
        int[] answers = new int[TOLD + TROUBLES * (OF_A_TROUBLE + 1) + EATERS * OF_AN_EATER + 2];
        int n = 0;
        for (int what = 0; what < TOLD; what++) {
            answers[n++] = x.told(what);
        }
        for (int t = 0; t < TROUBLES; t++) {
            for (int what = 0; what < OF_A_TROUBLE; what++) {
                answers[n++] = x.trouble(t, what);
            }
            answers[n++] = x.when(t);
        }
        for (int e = 0; e < EATERS; e++) {
            for (int what = 0; what < OF_AN_EATER; what++) {
                answers[n++] = x.eater(e, what);
            }
        }
        answers[n++] = x.judge();
        answers[n++] = x.fault();
        return answers;
    }
}
