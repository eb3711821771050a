/** Objects with something told in them, for the tests to begin with; each call makes a new one. */
final class Models {
    /** As many steps as count() needs for 14 features. */
    static final long STEPS = 16384;
    static final int SMALLEST = Integer.MIN_VALUE;
    static final int LARGEST = Integer.MAX_VALUE;

    private Models() {
    }

    /** Numbers that are no feature's, not even behind a minus, where there are this many features. */
    static int[] unknown(int features) {
        return new int[] {features + 1, -features - 1, 15, 16, -15, 32, 33, -33, 64, LARGEST, -LARGEST, SMALLEST};
    }

    static FeatureSolve rootOnly() {
        FeatureSolve x = new FeatureSolve();
        x.feature(0, 0);
        return x;
    }

    /** A root and below it this many features of one kind. */
    static FeatureSolve flat(int below, int kind) {
        FeatureSolve x = rootOnly();
        for (int i = 0; i < below; i++) {
            x.feature(1, kind);
        }
        return x;
    }

    /** Each feature is the parent of the next one. */
    static FeatureSolve chain(int features, int kind) {
        FeatureSolve x = new FeatureSolve();
        for (int f = 1; f <= features; f++) {
            x.feature(f - 1, kind);
        }
        return x;
    }

    /** Something of each promise, two found ones, and choices told in an order of their own. */
    static FeatureSolve busy() {
        FeatureSolve x = rootOnly();
        x.feature(1, 1);
        x.feature(2, 2);
        x.feature(2, 2);
        x.feature(1, 1);
        x.feature(5, 0);
        x.feature(1, 1);
        x.group(2, 1, 1);
        x.formula(1, 3, 5);
        x.formula(0, 7, 2);
        x.attribute(3, 0, 2);
        x.attribute(5, 1, -1);
        x.attribute(4, 2, 3);
        x.attribute(0, 0, 4);
        x.attribute(0, 1, 0);
        x.attribute(0, 2, 3);
        x.solve();
        x.choose(7, true);
        x.choose(5, false);
        x.choose(2, true);
        x.choose(3, false);
        x.solve();
        return x;
    }

    /** As busy(), but the last solve() found none: its why is 7 and -2. */
    static FeatureSolve stuck() {
        FeatureSolve x = busy();
        x.choose(2, false);
        x.solve();
        return x;
    }

    /** All 14 features, one of the groups too. */
    static FeatureSolve fullTree() {
        FeatureSolve x = flat(11, 1);
        x.feature(12, 2);
        x.feature(12, 2);
        x.group(12, 1, 1);
        return x;
    }

    /** All 40 formulas; they leave of features 2, 3 and 4 the variants with 2 or 3. */
    static FeatureSolve fullFormulas() {
        FeatureSolve x = flat(3, 1);
        for (int i = 0; i < 40; i++) {
            x.formula(2, 2, 3);
        }
        return x;
    }

    static FeatureSolve fullBoth() {
        FeatureSolve x = fullTree();
        for (int i = 0; i < 40; i++) {
            x.formula(2, 2, 3);
        }
        return x;
    }

    /** The features of the last variant found as digits of 0 and 1, the first feature first. */
    static long digits(FeatureSolve x, int features) {
        long digits = 0;
        for (int f = 1; f <= features; f++) {
            digits = digits * 10 + (x.chosen(f) ? 1 : 0);
        }
        return digits;
    }

    /** The why of the last solve() as a text. */
    static String why(FeatureSolve x) {
        StringBuilder all = new StringBuilder();
        for (int i = 0; i < 15 && x.why(i) != 0; i++) {
            all.append(i == 0 ? "" : " ").append(x.why(i));
        }
        return all.toString();
    }

    /** All that a feature forces as a text. */
    static String forces(FeatureSolve x, int feature) {
        StringBuilder all = new StringBuilder();
        int forced = x.forces(feature, 0);
        for (int i = 0; i < 15 && forced != 0; i++) {
            all.append(i == 0 ? "" : " ").append(forced);
            forced = x.forces(feature, i + 1);
        }
        return all.toString();
    }
}
