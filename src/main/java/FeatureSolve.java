/**
 * Variants of a product line: a tree of features, groups, formulas, sums with limits and choices.
 * The answers of each call are told in ../shared/DOC.md.
 */
public final class FeatureSolve {
    private static final int UNKNOWN = -1;
    private static final int OUTSIDE = -2;
    private static final int NO_ROOM = -4;
    private static final int TOO_FEW_STEPS = -1;

    private static final int ROOT = 1;
    private static final int MOST_FEATURES = 14;
    private static final int MOST_FORMULAS = 40;
    private static final int MOST_FOUND = 200;

    private static final int MANDATORY = 0;
    private static final int GROUPED = 2;

    private static final int IF_THEN = 0;
    private static final int NOT_BOTH = 1;
    private static final int ONE_AT_LEAST = 2;
    private static final int BOTH_OR_NEITHER = 3;

    private static final int ATTRIBUTES = 4;
    private static final int ATTRIBUTE_REACH = 1000;
    private static final int LIMIT_REACH = 10000;

    /** Stands for a variant where there is none; the variant without any feature is 0. */
    private static final int NO_VARIANT = -1;

    private final Variants variants;
    private final Tree tree;
    private final Formulas formulas;
    private final Sums sums;
    private final Choices choices;
    private final Found found;
    private final Reason reason;

    public FeatureSolve() {
        variants = new Variants();
        tree = variants.tree;
        formulas = variants.formulas;
        sums = variants.sums;
        choices = new Choices();
        found = new Found();
        reason = new Reason();
    }

    public int feature(int parent, int kind) {
        if (!tree.takesParent(parent)) {
            return UNKNOWN;
        }
        if (kind < MANDATORY || kind > GROUPED) {
            return OUTSIDE;
        }
        if (tree.size >= MOST_FEATURES) {
            return NO_ROOM;
        }
        variants.outdate();
        return tree.add(parent, kind);
    }

    public int group(int feature, int least, int most) {
        if (!tree.has(feature)) {
            return UNKNOWN;
        }
        if (least < 0 || least > most || most > MOST_FEATURES) {
            return OUTSIDE;
        }
        variants.outdate();
        return tree.bound(feature, least, most);
    }

    public int formula(int op, int a, int b) {
        if (!tree.hasSigned(a) || !tree.hasSigned(b)) {
            return UNKNOWN;
        }
        if (op < IF_THEN || op > BOTH_OR_NEITHER) {
            return OUTSIDE;
        }
        if (formulas.size >= MOST_FORMULAS) {
            return NO_ROOM;
        }
        if (Formulas.isAlwaysTrue(op, a, b)) {
            return 0;
        }
        variants.outdate();
        return formulas.add(op, a, b);
    }

    public int attribute(int feature, int what, int v) {
        boolean isLimit = feature == 0;
        if (!isLimit && !tree.has(feature)) {
            return UNKNOWN;
        }
        int reach = isLimit ? LIMIT_REACH : ATTRIBUTE_REACH;
        if (what < 0 || what >= ATTRIBUTES || v < -reach || v > reach) {
            return OUTSIDE;
        }
        variants.outdate();
        if (isLimit) {
            sums.limit(what, v);
        } else {
            sums.set(feature, what, v);
        }
        return 1;
    }

    public int choose(int feature, boolean on) {
        if (!tree.hasSigned(feature)) {
            return UNKNOWN;
        }
        if (feature < 0) {
            choices.drop(-feature);
        } else {
            choices.tell(feature, on);
        }
        return choices.size;
    }

    public int solve() {
        int variant = variants.first(choices.must, choices.mustNot);
        reason.clear();
        if (variant == NO_VARIANT) {
            found.keepNone();
            explain();
            return 0;
        }
        found.keep(variant);
        return 1;
    }

    public boolean chosen(int feature) {
        return (found.last & bit(feature)) != 0;
    }

    public int why(int i) {
        return reason.get(i);
    }

    public long count(long steps) {
        if (steps < 0) {
            return OUTSIDE;
        }
        if (1L << tree.size > steps) {
            return TOO_FEW_STEPS;
        }
        return variants.number(choices.must, choices.mustNot);
    }

    public int forces(int feature, int i) {
        if (!tree.has(feature)) {
            return UNKNOWN;
        }
        int must = choices.must | bit(feature);
        if (variants.first(must, choices.mustNot) == NO_VARIANT) {
            return 0;
        }
        int inAll = variants.inAll(must, choices.mustNot);
        int inSome = variants.inSome(must, choices.mustNot);
        return forced(inAll, inSome, feature, i);
    }

    public int differ(int variant, int other) {
        if (!found.has(variant) || !found.has(other)) {
            return UNKNOWN;
        }
        return Integer.bitCount(found.get(variant) ^ found.get(other));
    }

    public int level(int i) throws ArrayIndexOutOfBoundsException {
        if (i < 0 || i >= tree.size) {
            throw new ArrayIndexOutOfBoundsException();
        }
        return tree.above(i + 1);
    }

    /** The i-th feature but this one that is in all variants or, as a negative number, in none. */
    private int forced(int inAll, int inSome, int but, int i) {
        int place = 0;
        for (int f = ROOT; f <= tree.size; f++) {
            boolean always = (inAll & bit(f)) != 0;
            boolean never = (inSome & bit(f)) == 0;
            if (f != but && (always || never)) {
                if (place == i) {
                    return always ? f : -f;
                }
                place++;
            }
        }
        return 0;
    }

    private void explain() {
        int must = choices.must;
        int mustNot = choices.mustNot;
        for (int i = 0; i < choices.size; i++) {
            int choice = choices.get(i);
            int lessMust = must & ~bit(choice);
            int lessMustNot = mustNot & ~bit(-choice);
            if (variants.first(lessMust, lessMustNot) == NO_VARIANT) {
                must = lessMust;
                mustNot = lessMustNot;
            } else {
                reason.add(choice);
            }
        }
    }

    /** Lower features have higher bits, so that of two variants the first one is the larger number. */
    private static int bit(int feature) {
        return feature >= ROOT && feature <= MOST_FEATURES ? 1 << (MOST_FEATURES - feature) : 0;
    }

    private static int at(int[] row, int i) {
        return i >= 0 && i < row.length ? row[i] : 0;
    }

    private static void put(int[] row, int i, int value) {
        if (i >= 0 && i < row.length) {
            row[i] = value;
        }
    }

    /** The features with their kinds and groups; the rows go by the feature's number. */
    private static final class Tree {
        int size;
        private final int[] kinds = new int[MOST_FEATURES + 1];
        private final int[] depths = new int[MOST_FEATURES + 1];
        private final int[] parentBits = new int[MOST_FEATURES + 1];
        /** For each feature the bits of the grouped ones below it. */
        private final int[] groupedBits = new int[MOST_FEATURES + 1];
        private final int[] least = new int[MOST_FEATURES + 1];
        private final int[] most = new int[MOST_FEATURES + 1];
        /** The bits of the features that have a group. */
        private int bounded;

        boolean has(int feature) {
            return feature >= ROOT && feature <= size;
        }

        /** The smallest int has no opposite: it stays below 0 and so is unknown. */
        boolean hasSigned(int feature) {
            return has(feature < 0 ? -feature : feature);
        }

        boolean takesParent(int parent) {
            return size == 0 ? parent == 0 : has(parent);
        }

        int add(int parent, int kind) {
            size++;
            put(kinds, size, kind);
            put(depths, size, size == ROOT ? 0 : at(depths, parent) + 1);
            put(parentBits, size, bit(parent));
            if (kind == GROUPED) {
                put(groupedBits, parent, at(groupedBits, parent) | bit(size));
            }
            return size;
        }

        int bound(int feature, int fewest, int highest) {
            put(least, feature, fewest);
            put(most, feature, highest);
            bounded |= bit(feature);
            return Integer.bitCount(at(groupedBits, feature));
        }

        int above(int feature) {
            return at(depths, feature);
        }

        boolean mayBeIn(int variant, int feature) {
            return feature == ROOT || (variant & at(parentBits, feature)) != 0;
        }

        boolean mayBeOut(int variant, int feature) {
            if (feature == ROOT) {
                return false;
            }
            return at(kinds, feature) != MANDATORY || (variant & at(parentBits, feature)) == 0;
        }

        boolean keepsGroups(int variant) {
            for (int f = ROOT; f <= size; f++) {
                int members = Integer.bitCount(variant & at(groupedBits, f));
                boolean asked = (variant & bounded & bit(f)) != 0;
                if (asked && (members < at(least, f) || members > at(most, f))) {
                    return false;
                }
            }
            return true;
        }
    }

    /**
     * Formulas over two features. A side is true if of its feature's bit the variant has what the
     * side wants: the bit, or nothing where a negative number was told.
     */
    private static final class Formulas {
        int size;
        private final int[] ops = new int[MOST_FORMULAS];
        private final int[] leftBits = new int[MOST_FORMULAS];
        private final int[] leftWants = new int[MOST_FORMULAS];
        private final int[] rightBits = new int[MOST_FORMULAS];
        private final int[] rightWants = new int[MOST_FORMULAS];

        int add(int op, int a, int b) {
            put(ops, size, op);
            put(leftBits, size, bitOf(a));
            put(leftWants, size, bit(a));
            put(rightBits, size, bitOf(b));
            put(rightWants, size, bit(b));
            size++;
            return size;
        }

        boolean keeps(int variant) {
            for (int i = 0; i < size; i++) {
                boolean left = (variant & at(leftBits, i)) == at(leftWants, i);
                boolean right = (variant & at(rightBits, i)) == at(rightWants, i);
                if (!holds(at(ops, i), left, right)) {
                    return false;
                }
            }
            return true;
        }

        /** By itself: whichever of its two features are in, whatever the tree says. */
        static boolean isAlwaysTrue(int op, int a, int b) {
            int first = bitOf(a);
            int second = bitOf(b);
            return holdsIn(0, op, a, b) && holdsIn(first, op, a, b)
                && holdsIn(second, op, a, b) && holdsIn(first | second, op, a, b);
        }

        private static boolean holdsIn(int variant, int op, int a, int b) {
            return holds(op, (variant & bitOf(a)) == bit(a), (variant & bitOf(b)) == bit(b));
        }

        private static boolean holds(int op, boolean left, boolean right) {
            switch (op) {
                case IF_THEN:
                    return !left || right;
                case NOT_BOTH:
                    return !left || !right;
                case ONE_AT_LEAST:
                    return left || right;
                default:
                    return left == right;
            }
        }

        /** bit() of a negative number is 0: of a and its opposite one has the bit. */
        private static int bitOf(int signed) {
            return bit(signed) | bit(-signed);
        }
    }

    /** The features' attributes and the limits of their sums. */
    private static final class Sums {
        /** No sum is above it. */
        private static final int NO_LIMIT = MOST_FEATURES * ATTRIBUTE_REACH;
        private static final int ROW = MOST_FEATURES + 1;

        private final int[] values = new int[ATTRIBUTES * ROW];
        private final int[] limits = {NO_LIMIT, NO_LIMIT, NO_LIMIT, NO_LIMIT};

        void set(int feature, int what, int value) {
            put(values, what * ROW + feature, value);
        }

        void limit(int what, int value) {
            put(limits, what, value);
        }

        boolean keeps(int variant) {
            for (int what = 0; what < ATTRIBUTES; what++) {
                int limit = at(limits, what);
                int sum = 0;
                for (int f = ROOT; f <= MOST_FEATURES && limit != NO_LIMIT; f++) {
                    sum += (variant & bit(f)) != 0 ? at(values, what * ROW + f) : 0;
                }
                if (sum > limit) {
                    return false;
                }
            }
            return true;
        }
    }

    /** The choices in the order in which they were told, negative where a feature must not be in. */
    private static final class Choices {
        int size;
        int must;
        int mustNot;
        private final int[] told = new int[MOST_FEATURES];

        int get(int i) {
            return at(told, i);
        }

        void tell(int feature, boolean on) {
            drop(feature);
            put(told, size, on ? feature : -feature);
            size++;
            must |= on ? bit(feature) : 0;
            mustNot |= on ? 0 : bit(feature);
        }

        void drop(int feature) {
            int kept = 0;
            for (int i = 0; i < size; i++) {
                int choice = at(told, i);
                if (choice != feature && choice != -feature) {
                    put(told, kept, choice);
                    kept++;
                }
            }
            size = kept;
            must &= ~bit(feature);
            mustNot &= ~bit(feature);
        }
    }

    /** The variants that keep tree, formulas and limits, the first one first; choices are asked of them. */
    private static final class Variants {
        /** The root is in each variant, the others are free at most. */
        private static final int MOST_VARIANTS = 1 << (MOST_FEATURES - 1);

        final Tree tree = new Tree();
        final Formulas formulas = new Formulas();
        final Sums sums = new Sums();
        private final int[] row = new int[MOST_VARIANTS];
        private int size;
        private boolean upToDate;

        /** To be called with each change of tree, formulas or sums. */
        void outdate() {
            upToDate = false;
        }

        int first(int must, int mustNot) {
            update();
            for (int i = 0; i < size; i++) {
                if (fits(at(row, i), must, mustNot)) {
                    return at(row, i);
                }
            }
            return NO_VARIANT;
        }

        int number(int must, int mustNot) {
            update();
            int number = 0;
            for (int i = 0; i < size; i++) {
                if (fits(at(row, i), must, mustNot)) {
                    number++;
                }
            }
            return number;
        }

        int inAll(int must, int mustNot) {
            update();
            int common = -1;
            for (int i = 0; i < size; i++) {
                if (fits(at(row, i), must, mustNot)) {
                    common &= at(row, i);
                }
            }
            return common;
        }

        int inSome(int must, int mustNot) {
            update();
            int joined = 0;
            for (int i = 0; i < size; i++) {
                if (fits(at(row, i), must, mustNot)) {
                    joined |= at(row, i);
                }
            }
            return joined;
        }

        private static boolean fits(int variant, int must, int mustNot) {
            return (variant & must) == must && (variant & mustNot) == 0;
        }

        private void update() {
            if (upToDate) {
                return;
            }
            put(row, 0, 0);
            size = 1;
            for (int f = ROOT; f <= tree.size; f++) {
                branch(f);
            }
            dropUnkept();
            upToDate = true;
        }

        /**
         * Each variant goes on with the feature, without it, or both ways. It leaves one at least,
         * so that writing from the back overwrites none that is still to be read.
         */
        private void branch(int feature) {
            int end = size;
            for (int i = 0; i < size; i++) {
                int variant = at(row, i);
                end += tree.mayBeIn(variant, feature) && tree.mayBeOut(variant, feature) ? 1 : 0;
            }
            int to = end;
            for (int i = size - 1; i >= 0; i--) {
                int variant = at(row, i);
                if (tree.mayBeOut(variant, feature)) {
                    to--;
                    put(row, to, variant);
                }
                if (tree.mayBeIn(variant, feature)) {
                    to--;
                    put(row, to, variant | bit(feature));
                }
            }
            size = end;
        }

        private void dropUnkept() {
            int kept = 0;
            for (int i = 0; i < size; i++) {
                int variant = at(row, i);
                if (tree.keepsGroups(variant) && formulas.keeps(variant) && sums.keeps(variant)) {
                    put(row, kept, variant);
                    kept++;
                }
            }
            size = kept;
        }
    }

    /** The variants that solve() found. */
    private static final class Found {
        /** Without any feature while the last solve() found none. */
        int last;
        private int size;
        private final int[] kept = new int[MOST_FOUND];

        void keep(int variant) {
            last = variant;
            if (size < MOST_FOUND) {
                put(kept, size, variant);
                size++;
            }
        }

        void keepNone() {
            last = 0;
        }

        boolean has(int number) {
            return number >= 1 && number <= size;
        }

        int get(int number) {
            return at(kept, number - 1);
        }
    }

    /** The choices with which the last solve() found no variant. */
    private static final class Reason {
        private int size;
        private final int[] left = new int[MOST_FEATURES];

        void clear() {
            size = 0;
        }

        void add(int choice) {
            put(left, size, choice);
            size++;
        }

        int get(int i) {
            return i >= 0 && i < size ? at(left, i) : 0;
        }
    }
}
