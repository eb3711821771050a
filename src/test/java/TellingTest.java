import java.util.function.Supplier;

/** Promises 1 to 6, what is told: each sentence that names a boundary case has a test of its own. */
public final class TellingTest {
    private static final long STEPS = Models.STEPS;
    private static final int SMALLEST = Models.SMALLEST;
    private static final int LARGEST = Models.LARGEST;

    public static void main(String[] args) {
        Check c = new Check("telling");
        newObjectHasNoFeatures(c);
        newObjectHasOneVariant(c);
        newObjectHasNothingElse(c);
        featureAnswersItsNumber(c);
        featureNoParent(c);
        featureZeroForTheRootAlone(c);
        featureNoSuchKind(c);
        featureNoRoom(c);
        groupInsteadOfOneBefore(c);
        groupAnswersHowMany(c);
        groupByNow(c);
        groupNoFeature(c);
        groupLeastBelowZero(c);
        groupLeastAboveMost(c);
        groupMostAboveFourteen(c);
        formulaAnswersItsNumber(c);
        formulaNoFeature(c);
        formulaNoOp(c);
        formulaNoRoom(c);
        formulaAlwaysTrue(c);
        formulaThereIsNone(c);
        formulaByItself(c);
        formulaNeverTrue(c);
        attributeAnswersOne(c);
        attributeInsteadOfOneBefore(c);
        attributeZeroIsTheLimit(c);
        attributeNoFeature(c);
        attributeNoWhat(c);
        attributeOutside(c);
        attributeLimitOutside(c);
        chooseAnswersHowMany(c);
        chooseInsteadIsTheLast(c);
        chooseNegativeIsNoMore(c);
        chooseNegativeWithoutOne(c);
        chooseNoFeature(c);
        c.end();
    }

    /** "No features" */
    private static void newObjectHasNoFeatures(Check c) {
        FeatureSolve x = new FeatureSolve();
        c.throwsAtLevel(x, 0);
        c.due("group", x.group(1, 0, 0), -1);
        c.due("formula", x.formula(0, 1, 1), -1);
        c.due("attribute", x.attribute(1, 0, 0), -1);
        c.due("choose", x.choose(1, true), -1);
        c.due("forces", x.forces(1, 0), -1);
        c.due("2 to the 0 steps do", x.count(1), 1);
    }

    /** "and so one VARIANT without any" */
    private static void newObjectHasOneVariant(Check c) {
        FeatureSolve x = new FeatureSolve();
        c.due("count", x.count(STEPS), 1);
        c.due("solve", x.solve(), 1);
        for (int f = -1; f <= 15; f++) {
            c.due("chosen " + f, x.chosen(f), false);
        }
        c.due("no why", x.why(0), 0);
        x.feature(0, 0);
        x.solve();
        c.due("the one found before is without any", x.differ(1, 2), 1);
    }

    /** Nothing was found, chosen or told before the first call, and objects share nothing. */
    private static void newObjectHasNothingElse(Check c) {
        Models.stuck();
        FeatureSolve x = new FeatureSolve();
        c.due("no variant found", x.differ(1, 1), -1);
        c.due("no why", x.why(0), 0);
        c.due("not chosen", x.chosen(1), false);
        c.due("first feature", x.feature(0, 0), 1);
        c.due("first choice", x.choose(1, true), 1);
        c.due("first formula", x.formula(2, 1, 1), 1);
        c.due("no grouped ones", x.group(1, 0, 14), 0);
        c.due("one variant", x.count(2), 1);
    }

    /** "A feature: its number" */
    private static void featureAnswersItsNumber(Check c) {
        FeatureSolve x = new FeatureSolve();
        c.due("the root", x.feature(0, 0), 1);
        c.due("a refused one has none", x.feature(1, 3), -2);
        c.due("the next", x.feature(1, 2), 2);
        c.due("the next", x.feature(2, 0), 3);
    }

    /** "-1 there is no PARENT" */
    private static void featureNoParent(Check c) {
        for (int parent : Models.unknown(7)) {
            Probe.refused(c, "feature(" + parent + ", 0)", Models::busy, x -> x.feature(parent, 0), -1);
        }
        for (int parent : Models.unknown(0)) {
            Probe.refused(c, "a root below " + parent, FeatureSolve::new, x -> x.feature(parent, 0), -1);
        }
        Probe.refused(c, "feature(-1, 1)", Models::busy, x -> x.feature(-1, 1), -1);
    }

    /** "(0 for the ROOT alone)" */
    private static void featureZeroForTheRootAlone(Check c) {
        for (int kind = 0; kind <= 2; kind++) {
            int k = kind;
            c.due("feature(0, " + k + ") as the root", new FeatureSolve().feature(0, k), 1);
            Probe.refused(c, "feature(0, " + k + ") again", Models::busy, x -> x.feature(0, k), -1);
            Probe.refused(c, "feature(0, " + k + ") of 14", Models::fullTree, x -> x.feature(0, k), -1);
        }
    }

    /** "-2 no such KIND" */
    private static void featureNoSuchKind(Check c) {
        for (int kind : new int[] {-1, 3, 4, -2, 256, SMALLEST, LARGEST}) {
            Probe.refused(c, "a root of kind " + kind, FeatureSolve::new, x -> x.feature(0, kind), -2);
            Probe.refused(c, "feature(1, " + kind + ")", Models::busy, x -> x.feature(1, kind), -2);
            Probe.refused(c, "feature(2, " + kind + ") of 14", Models::fullTree, x -> x.feature(2, kind), -2);
        }
    }

    /** "-4 there are 14" */
    private static void featureNoRoom(Check c) {
        for (int kind = 0; kind <= 2; kind++) {
            int k = kind;
            c.due("the 14th of kind " + k, Models.flat(12, 1).feature(1, k), 14);
            Probe.refused(c, "a 15th below 1 of kind " + k, Models::fullTree, x -> x.feature(1, k), -4);
            Probe.refused(c, "a 15th below 12 of kind " + k, Models::fullTree, x -> x.feature(12, k), -4);
            Probe.refused(c, "a 15th below 14 of kind " + k, Models::fullTree, x -> x.feature(14, k), -4);
        }
    }

    /** "A feature's group, instead of one told before" */
    private static void groupInsteadOfOneBefore(Check c) {
        FeatureSolve x = Models.flat(3, 2);
        x.group(1, 3, 3);
        c.due("three", x.count(STEPS), 1);
        x.group(1, 0, 1);
        c.due("one at most instead", x.count(STEPS), 4);
        x.group(1, 2, 2);
        c.due("two instead", x.count(STEPS), 3);
        x.group(1, 0, 14);
        c.due("all again", x.count(STEPS), 8);
        FeatureSolve y = Models.flat(2, 1);
        y.group(2, 1, 1);
        y.group(3, 0, 0);
        c.due("not instead of another feature's", y.count(STEPS), 2);
    }

    /** "how many GROUPED ones there are ... whose PARENT it is" */
    private static void groupAnswersHowMany(Check c) {
        c.due("none below a root alone", Models.rootOnly().group(1, 0, 0), 0);
        c.due("13 below the root", Models.flat(13, 2).group(1, 0, 0), 13);
        c.due("none below the last", Models.flat(13, 2).group(14, 0, 0), 0);
        c.due("no optional ones", Models.flat(13, 1).group(1, 0, 0), 0);
        c.due("no mandatory ones", Models.flat(13, 0).group(1, 0, 0), 0);
        FeatureSolve chain = Models.chain(14, 2);
        for (int f = 1; f <= 14; f++) {
            c.due("of a chain, below " + f, chain.group(f, 0, 1), f == 14 ? 0 : 1);
        }
    }

    /** "by now": more of them may be told later, and the group holds for these too. */
    private static void groupByNow(Check c) {
        FeatureSolve x = Models.rootOnly();
        for (int below = 0; below <= 13; below++) {
            c.due("by now", x.group(1, 0, 1), below);
            c.due("one at most of " + below, x.count(STEPS), below + 1);
            x.feature(1, 2);
        }
        FeatureSolve y = Models.rootOnly();
        y.group(1, 2, 2);
        c.due("two of none", y.count(STEPS), 0);
        y.feature(1, 2);
        c.due("two of one", y.count(STEPS), 0);
        y.feature(1, 2);
        c.due("two of two", y.count(STEPS), 1);
        y.feature(1, 2);
        c.due("two of three", y.count(STEPS), 3);
    }

    /** "-1 there is no such feature" */
    private static void groupNoFeature(Check c) {
        for (int f : Models.unknown(7)) {
            Probe.refused(c, "group(" + f + ", 0, 1)", Models::busy, x -> x.group(f, 0, 1), -1);
        }
        Probe.refused(c, "group(0, 0, 1)", Models::busy, x -> x.group(0, 0, 1), -1);
        Probe.refused(c, "group(-2, 0, 0)", Models::busy, x -> x.group(-2, 0, 0), -1);
        Probe.refused(c, "group(1, 0, 1) of no features", FeatureSolve::new, x -> x.group(1, 0, 1), -1);
        Probe.refused(c, "group(15, 0, 1) of 14", Models::fullTree, x -> x.group(15, 0, 1), -1);
    }

    /** "-2 not 0 <= least" */
    private static void groupLeastBelowZero(Check c) {
        for (int least : new int[] {-1, -14, SMALLEST}) {
            Probe.refused(c, "group(2, " + least + ", 2)", Models::busy, x -> x.group(2, least, 2), -2);
            Probe.refused(c, "group(2, " + least + ", " + least + ")", Models::busy, x -> x.group(2, least, least), -2);
        }
        c.due("group(2, 0, 2)", Models.busy().group(2, 0, 2), 2);
    }

    /** "least <= most" */
    private static void groupLeastAboveMost(Check c) {
        for (int most = 0; most <= 14; most++) {
            int m = most;
            c.due("group(2, " + m + ", " + m + ")", Models.busy().group(2, m, m), 2);
            Probe.refused(c, "group(2, " + (m + 1) + ", " + m + ")", Models::busy, x -> x.group(2, m + 1, m), -2);
        }
        Probe.refused(c, "group(2, LARGEST, 2)", Models::busy, x -> x.group(2, LARGEST, 2), -2);
        Probe.refused(c, "group(2, 0, -1)", Models::busy, x -> x.group(2, 0, -1), -2);
        Probe.refused(c, "group(2, 0, SMALLEST)", Models::busy, x -> x.group(2, 0, SMALLEST), -2);
    }

    /** "most <= 14" */
    private static void groupMostAboveFourteen(Check c) {
        for (int most : new int[] {15, 16, 100, LARGEST}) {
            Probe.refused(c, "group(2, 0, " + most + ")", Models::busy, x -> x.group(2, 0, most), -2);
            Probe.refused(c, "group(2, " + most + ", " + most + ")", Models::busy, x -> x.group(2, most, most), -2);
        }
        c.due("group(2, 0, 14)", Models.busy().group(2, 0, 14), 2);
        c.due("group(2, 14, 14)", Models.busy().group(2, 14, 14), 2);
    }

    /** "A FORMULA: its number" */
    private static void formulaAnswersItsNumber(Check c) {
        FeatureSolve x = Models.flat(2, 1);
        c.due("the first", x.formula(0, 2, 3), 1);
        c.due("the same again", x.formula(0, 2, 3), 2);
        c.due("a refused one has none", x.formula(0, 2, 4), -1);
        c.due("the next", x.formula(3, -1, -3), 3);
    }

    /** "-1 there is no such feature", of a as of b */
    private static void formulaNoFeature(Check c) {
        for (int f : Models.unknown(7)) {
            Probe.refused(c, "formula(0, " + f + ", 2)", Models::busy, x -> x.formula(0, f, 2), -1);
            Probe.refused(c, "formula(1, -2, " + f + ")", Models::busy, x -> x.formula(1, -2, f), -1);
            Probe.refused(c, "formula(2, " + f + ", " + f + ")", Models::busy, x -> x.formula(2, f, f), -1);
        }
        for (int op = 0; op <= 3; op++) {
            int o = op;
            Probe.refused(c, "formula(" + o + ", 0, 2)", Models::busy, x -> x.formula(o, 0, 2), -1);
            Probe.refused(c, "formula(" + o + ", 2, 0)", Models::busy, x -> x.formula(o, 2, 0), -1);
            Probe.refused(c, "formula(" + o + ", 0, 0)", Models::busy, x -> x.formula(o, 0, 0), -1);
        }
        c.due("formula(1, 7, -6)", Models.busy().formula(1, 7, -6), 3);
        c.due("formula(1, -7, 6)", Models.busy().formula(1, -7, 6), 3);
    }

    /** "-2 no such op" */
    private static void formulaNoOp(Check c) {
        for (int op : new int[] {-1, 4, 5, -2, 256, SMALLEST, LARGEST}) {
            Probe.refused(c, "formula(" + op + ", 2, 3)", Models::busy, x -> x.formula(op, 2, 3), -2);
            Probe.refused(c, "formula(" + op + ", 2, 2)", Models::busy, x -> x.formula(op, 2, 2), -2);
            Probe.refused(c, "formula(" + op + ", 1, 2) of 40", Models::fullFormulas, x -> x.formula(op, 1, 2), -2);
        }
    }

    /** "-4 there are 40": those that are always true count neither before nor then. */
    private static void formulaNoRoom(Check c) {
        FeatureSolve x = Models.flat(2, 1);
        for (int i = 1; i <= 40; i++) {
            c.due("always true, before number " + i, x.formula(0, 2, 2), 0);
            c.due("number " + i, x.formula(2, 1, 2), i);
        }
        c.due("the next", x.formula(2, 1, 2), -4);
        for (int op = 0; op <= 3; op++) {
            int o = op;
            Probe.refused(c, "formula(" + o + ", 3, 4) of 40", Models::fullFormulas, y -> y.formula(o, 3, 4), -4);
            Probe.refused(c, "formula(" + o + ", 4, 4) of 40", Models::fullFormulas, y -> y.formula(o, 4, 4), -4);
            Probe.refused(c, "formula(" + o + ", 4, -4) of 40", Models::fullFormulas, y -> y.formula(o, 4, -4), -4);
        }
    }

    /** "0 ... if it is always true": if a then a, not both of a and not a, one of them, both or neither of a and a. */
    private static void formulaAlwaysTrue(Check c) {
        int[] secondSign = {1, -1, -1, 1};
        for (int op = 0; op <= 3; op++) {
            for (int f = 1; f <= 7; f++) {
                int b = secondSign[op] * f;
                FeatureSolve x = Models.busy();
                c.due("formula(" + op + ", " + f + ", " + b + ")", x.formula(op, f, b), 0);
                c.due("formula(" + op + ", " + -f + ", " + -b + ")", x.formula(op, -f, -b), 0);
                c.due("formula(" + op + ", " + f + ", " + -b + ")", x.formula(op, f, -b), 3);
                c.due("formula(" + op + ", " + -f + ", " + b + ")", x.formula(op, -f, b), 4);
                int other = f == 7 ? 1 : f + 1;
                c.due("formula(" + op + ", " + f + ", " + other + ")", x.formula(op, f, other), 5);
                c.due("formula(" + op + ", " + f + ", " + -other + ")", x.formula(op, f, -other), 6);
            }
        }
    }

    /** "(and there is none)": it has no number, takes no room and changes nothing. */
    private static void formulaThereIsNone(Check c) {
        int[] secondSign = {1, -1, -1, 1};
        for (int op = 0; op <= 3; op++) {
            int o = op;
            Probe.refused(c, "op " + o + ", always true", Models::busy, x -> x.formula(o, 2, 2 * secondSign[o]), 0);
            Probe.refused(c, "op " + o + ", always true", Models::stuck, x -> x.formula(o, -3, -3 * secondSign[o]), 0);
        }
    }

    /** "(by itself)": one that the tree, another formula or a choice makes true is one all the same. */
    private static void formulaByItself(Check c) {
        FeatureSolve x = Models.busy();
        c.due("the root is always in", x.formula(2, 1, 2), 3);
        c.due("or not in never", x.formula(1, -1, 2), 4);
        c.due("each needs its parent", x.formula(0, 3, 2), 5);
        c.due("a mandatory one and its parent", x.formula(3, 5, 6), 6);
        c.due("the same as another formula", x.formula(0, 7, 2), 7);
        c.due("a choice says it", x.formula(2, 7, 3), 8);
        c.due("the root and itself", x.formula(2, 1, 1), 9);
    }

    /** One that is never true is a FORMULA too. */
    private static void formulaNeverTrue(Check c) {
        FeatureSolve x = Models.flat(1, 1);
        c.due("both or neither of 2 and -2", x.formula(3, 2, -2), 1);
        c.due("no variant keeps it", x.count(STEPS), 0);
        FeatureSolve y = Models.flat(1, 1);
        c.due("not both of 2 and 2", y.formula(1, 2, 2), 1);
        c.due("2 can't be in", Models.forces(y, 1), "-2");
        FeatureSolve z = Models.flat(1, 1);
        c.due("if -2 then 2", z.formula(0, -2, 2), 1);
        c.due("2 must be in", Models.forces(z, 1), "2");
    }

    /** "A feature's ATTRIBUTE ...: 1" */
    private static void attributeAnswersOne(Check c) {
        for (int what = 0; what <= 3; what++) {
            for (int f = 0; f <= 14; f++) {
                FeatureSolve x = Models.flat(13, 1);
                c.due("attribute(" + f + ", " + what + ", 1)", x.attribute(f, what, 1), 1);
                c.due("attribute(" + f + ", " + what + ", -1)", x.attribute(f, what, -1), 1);
                c.due("attribute(" + f + ", " + what + ", 0)", x.attribute(f, what, 0), 1);
            }
        }
    }

    /** An ATTRIBUTE told again is the one told last, of that feature and that number alone. */
    private static void attributeInsteadOfOneBefore(Check c) {
        for (int f = 2; f <= 14; f++) {
            FeatureSolve x = Models.flat(13, 1);
            x.attribute(0, 3, 0);
            x.attribute(f, 3, 7);
            c.due("7 is too much, of " + f, x.count(STEPS), 4096);
            c.due("so it is not in", Models.forces(x, 1), "-" + f);
            x.attribute(f, 2, 9);
            c.due("another number's", x.count(STEPS), 4096);
            x.attribute(f, 3, 0);
            c.due("0 instead, of " + f, x.count(STEPS), 8192);
        }
    }

    /** "feature 0: the LIMIT" */
    private static void attributeZeroIsTheLimit(Check c) {
        FeatureSolve x = Models.flat(1, 1);
        x.attribute(2, 1, 3);
        c.due("limit 2", x.attribute(0, 1, 2), 1);
        c.due("2 is too much", x.count(STEPS), 1);
        c.due("limit 3 instead", x.attribute(0, 1, 3), 1);
        c.due("2 may be in", x.count(STEPS), 2);
        FeatureSolve none = new FeatureSolve();
        c.due("a limit before any feature", none.attribute(0, 0, -1), 1);
        c.due("0 is above it", none.count(1), 0);
        c.due("none to find", none.solve(), 0);
        c.due("and no choice to blame", none.why(0), 0);
        c.due("limit 0 instead", none.attribute(0, 0, 0), 1);
        c.due("0 is at most 0", none.count(1), 1);
    }

    /** "-1 there is no feature" */
    private static void attributeNoFeature(Check c) {
        for (int f : Models.unknown(7)) {
            Probe.refused(c, "attribute(" + f + ", 0, 1)", Models::busy, x -> x.attribute(f, 0, 1), -1);
        }
        for (int f = 1; f <= 7; f++) {
            int known = -f;
            Probe.refused(c, "attribute(" + known + ", 1, 2)", Models::busy, x -> x.attribute(known, 1, 2), -1);
        }
        Probe.refused(c, "attribute(1, 0, 1) of no features", FeatureSolve::new, x -> x.attribute(1, 0, 1), -1);
        Probe.refused(c, "attribute(15, 0, 1) of 14", Models::fullTree, x -> x.attribute(15, 0, 1), -1);
    }

    /** "-2 what is not 0 .. 3", of a LIMIT too */
    private static void attributeNoWhat(Check c) {
        for (int what : new int[] {-1, 4, 5, -4, 256, SMALLEST, LARGEST}) {
            for (int feature = 0; feature <= 7; feature++) {
                int f = feature;
                Probe.refused(c, "attribute(" + f + ", " + what + ", 1)", Models::busy, x -> x.attribute(f, what, 1), -2);
            }
            Probe.refused(c, "limit of " + what + ", no features", FeatureSolve::new, x -> x.attribute(0, what, 1), -2);
        }
    }

    /** "or v is below -1000 or above 1000" */
    private static void attributeOutside(Check c) {
        Supplier<FeatureSolve> model = () -> {
            FeatureSolve x = Models.flat(2, 1);
            x.attribute(0, 0, 1000);
            x.attribute(3, 0, 1000);
            return x;
        };
        for (int v : new int[] {1001, -1001, 10000, -10000, 65536, LARGEST, SMALLEST}) {
            for (int feature = 1; feature <= 3; feature++) {
                int f = feature;
                Probe.refused(c, "attribute(" + f + ", 0, " + v + ")", model, x -> x.attribute(f, 0, v), -2);
            }
        }
        FeatureSolve x = model.get();
        c.due("attribute(2, 0, 1000)", x.attribute(2, 0, 1000), 1);
        c.due("2 and 3 are too much", x.count(STEPS), 3);
        c.due("attribute(2, 0, -1000)", x.attribute(2, 0, -1000), 1);
        x.attribute(0, 0, -1000);
        c.due("2 without 3", x.count(STEPS), 1);
        c.due("2 without 3", Models.forces(x, 1), "2 -3");
    }

    /** "(of a LIMIT -10000, 10000)" */
    private static void attributeLimitOutside(Check c) {
        for (int what = 0; what <= 3; what++) {
            int w = what;
            for (int v : new int[] {10001, -10001, 65536, LARGEST, SMALLEST}) {
                Probe.refused(c, "limit " + v + " of " + w, Models::busy, x -> x.attribute(0, w, v), -2);
                Probe.refused(c, "limit " + v + " of " + w, FeatureSolve::new, x -> x.attribute(0, w, v), -2);
            }
            FeatureSolve x = Models.flat(2, 1);
            c.due("limit 1001 of " + w, x.attribute(0, w, 1001), 1);
            c.due("limit -1001 of " + w, x.attribute(0, w, -1001), 1);
            c.due("none below -1001", x.count(STEPS), 0);
            c.due("limit 10000 of " + w, x.attribute(0, w, 10000), 1);
            c.due("all within 10000", x.count(STEPS), 4);
            c.due("limit -10000 of " + w, x.attribute(0, w, -10000), 1);
            c.due("none below -10000", x.count(STEPS), 0);
        }
    }

    /** "how many CHOICES there are" */
    private static void chooseAnswersHowMany(Check c) {
        FeatureSolve x = Models.flat(13, 1);
        for (int f = 14; f >= 1; f--) {
            c.due("choose(" + f + ")", x.choose(f, f % 2 == 1), 15 - f);
        }
        c.due("one of them again", x.choose(9, true), 14);
        c.due("the other way", x.choose(9, false), 14);
        for (int f = 1; f <= 14; f++) {
            c.due("choose(" + -f + ")", x.choose(-f, true), 14 - f);
        }
        c.due("all are free again", x.count(STEPS), 8192);
    }

    /** "instead of one for the same feature (it is the last one then)" */
    private static void chooseInsteadIsTheLast(Check c) {
        FeatureSolve x = Models.flat(3, 1);
        x.attribute(0, 0, -1);
        for (int f = 2; f <= 4; f++) {
            x.attribute(f, 0, -1);
            c.due("choose(" + f + ")", x.choose(f, false), f - 1);
        }
        x.solve();
        c.due("as told", Models.why(x), "-2 -3 -4");
        c.due("the same again", x.choose(2, false), 3);
        x.solve();
        c.due("it is the last", Models.why(x), "-3 -4 -2");
        c.due("the middle one again", x.choose(4, false), 3);
        x.solve();
        c.due("it is the last", Models.why(x), "-3 -2 -4");
        c.due("the last one again", x.choose(4, false), 3);
        x.solve();
        c.due("it stays the last", Models.why(x), "-3 -2 -4");
        c.due("the other way", x.choose(3, true), 3);
        c.due("instead of the one before", x.solve(), 1);
        x.attribute(3, 0, 0);
        x.solve();
        c.due("the others alone", Models.why(x), "-2 -4");
    }

    /** "of a negative feature: its CHOICE, if it has one, is no more", whatever on says */
    private static void chooseNegativeIsNoMore(Check c) {
        for (int on = 0; on < 2; on++) {
            boolean told = on == 1;
            FeatureSolve x = Models.flat(13, 1);
            x.choose(2, told);
            x.choose(14, !told);
            x.choose(1, true);
            c.due("three of them", x.count(STEPS), 2048);
            c.due("choose(-14, " + told + ")", x.choose(-14, told), 2);
            c.due("14 is free", x.count(STEPS), 4096);
            c.due("choose(-2, " + told + ")", x.choose(-2, told), 1);
            c.due("2 is free", x.count(STEPS), 8192);
            c.due("choose(-1, " + told + ")", x.choose(-1, told), 0);
            c.due("none is left", x.count(STEPS), 8192);
            c.due("told anew", x.choose(2, told), 1);
        }
    }

    /** "if it has one": without one nothing changes. */
    private static void chooseNegativeWithoutOne(Check c) {
        for (int on = 0; on < 2; on++) {
            boolean told = on == 1;
            Probe.refused(c, "choose(-4, " + told + ")", Models::busy, x -> x.choose(-4, told), 4);
            Probe.refused(c, "choose(-1, " + told + ")", Models::busy, x -> x.choose(-1, told), 4);
            Probe.refused(c, "choose(-14, " + told + ")", Models::fullTree, x -> x.choose(-14, told), 0);
        }
    }

    /** "-1 there is no such feature" */
    private static void chooseNoFeature(Check c) {
        for (int on = 0; on < 2; on++) {
            boolean told = on == 1;
            for (int f : Models.unknown(7)) {
                Probe.refused(c, "choose(" + f + ", " + told + ")", Models::busy, x -> x.choose(f, told), -1);
            }
            Probe.refused(c, "choose(0, " + told + ")", Models::busy, x -> x.choose(0, told), -1);
            Probe.refused(c, "choose(0, " + told + ")", FeatureSolve::new, x -> x.choose(0, told), -1);
            Probe.refused(c, "choose(1, " + told + ")", FeatureSolve::new, x -> x.choose(1, told), -1);
            Probe.refused(c, "choose(-1, " + told + ")", FeatureSolve::new, x -> x.choose(-1, told), -1);
        }
    }
}
