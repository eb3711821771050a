/** Promises 7 to 13, what is asked: each sentence that names a boundary case has a test of its own. */
public final class AskingTest {
    private static final long STEPS = Models.STEPS;
    private static final int SMALLEST = Models.SMALLEST;
    private static final int LARGEST = Models.LARGEST;

    public static void main(String[] args) {
        Check c = new Check("asking");
        solveFindsTheFirstThatKeepsAll(c);
        solveIsTheNextFound(c);
        solveKeepsTheFirst200(c);
        solveNumbersFromOneOn(c);
        solveNoneIsNoFoundOne(c);
        chosenInTheLastFound(c);
        chosenInOneThatIsNotKept(c);
        chosenFalseIfNoneFound(c);
        chosenOfNoFeature(c);
        whyIsWithoutVariant(c);
        whyInTheOrderTold(c);
        whyFromTheFirstOn(c);
        whyNorThoseGoneBefore(c);
        whyNegativeIfMustNot(c);
        whyZeroIfThereIsNone(c);
        whyZeroIfOneWasFound(c);
        whyOfTheLastSolve(c);
        countKeepsAll(c);
        countStepsBelowZero(c);
        countStepsTooFew(c);
        countLargeSteps(c);
        forcesWithChoicesAndThisFeature(c);
        forcesTheOthersByNumbers(c);
        forcesInAllOrInNone(c);
        forcesThoseWithChoiceCount(c);
        forcesZeroIfThereIsNone(c);
        forcesZeroIfNoVariant(c);
        forcesNoFeature(c);
        forcesIsNoChoice(c);
        differHowMany(c);
        differOneIsNotThere(c);
        levelHowManyAbove(c);
        levelNoSuchFeature(c);
        c.end();
    }

    /** "The FIRST VARIANT that keeps all: 1": tree, group, formula, limit and choice each leave out one. */
    private static void solveFindsTheFirstThatKeepsAll(Check c) {
        FeatureSolve x = Models.flat(2, 2);
        x.feature(1, 1);
        x.feature(1, 1);
        c.due("solve()", x.solve(), 1);
        c.due("all", Models.digits(x, 5), 11111);
        x.group(1, 1, 1);
        c.due("solve()", x.solve(), 1);
        c.due("the group", Models.digits(x, 5), 11011);
        x.formula(1, 2, 4);
        c.due("solve()", x.solve(), 1);
        c.due("the formula", Models.digits(x, 5), 11001);
        x.attribute(2, 0, 1);
        x.attribute(0, 0, 0);
        c.due("solve()", x.solve(), 1);
        c.due("the limit", Models.digits(x, 5), 10111);
        x.choose(5, false);
        c.due("solve()", x.solve(), 1);
        c.due("the choice", Models.digits(x, 5), 10110);
        x.choose(3, false);
        c.due("solve()", x.solve(), 0);
    }

    /** "and it is the next FOUND one": the same variant again too */
    private static void solveIsTheNextFound(Check c) {
        FeatureSolve x = Models.flat(1, 1);
        x.solve();
        c.due("the first", x.differ(1, 1), 0);
        c.due("no second yet", x.differ(2, 2), -1);
        x.solve();
        c.due("the same again is the second", x.differ(2, 1), 0);
        c.due("no third yet", x.differ(3, 3), -1);
        x.choose(2, false);
        x.solve();
        c.due("another is the third", x.differ(3, 1), 1);
    }

    /** "(the first 200 are kept": the 201st is found, but not kept, and takes no other's place. */
    private static void solveKeepsTheFirst200(Check c) {
        FeatureSolve x = Models.flat(2, 1);
        x.solve();
        x.choose(2, false);
        for (int i = 2; i <= 199; i++) {
            x.solve();
        }
        x.choose(3, false);
        c.due("no 200th yet", x.differ(200, 200), -1);
        c.due("solve() 200", x.solve(), 1);
        c.due("the 200th", x.differ(200, 1), 2);
        x.choose(-2, false);
        for (int i = 201; i <= 204; i++) {
            c.due("solve() " + i, x.solve(), 1);
            c.due("not kept", x.differ(i, i), -1);
            c.due("nor for another", x.differ(1, 201), -1);
        }
        c.due("the first is as it was", x.differ(1, 2), 1);
        c.due("the 199th is as it was", x.differ(199, 2), 0);
        c.due("the 200th is as it was", x.differ(200, 2), 1);
    }

    /** "from 1 on)" */
    private static void solveNumbersFromOneOn(Check c) {
        FeatureSolve x = Models.flat(1, 1);
        x.solve();
        c.due("1 is there", x.differ(1, 1), 0);
        c.due("0 isn't", x.differ(0, 0), -1);
    }

    /** "or 0, and there is a WHY": one that is not found has no number. */
    private static void solveNoneIsNoFoundOne(Check c) {
        FeatureSolve x = Models.flat(1, 1);
        x.choose(2, true);
        x.solve();
        x.choose(1, false);
        c.due("solve()", x.solve(), 0);
        c.due("a why", Models.why(x), "-1");
        c.due("no second one", x.differ(2, 2), -1);
        x.choose(-1, false);
        x.choose(2, false);
        c.due("solve()", x.solve(), 1);
        c.due("no why", x.why(0), 0);
        c.due("the second one", x.differ(2, 1), 1);
    }

    /** "Whether a feature is in the last one that solve() found" */
    private static void chosenInTheLastFound(Check c) {
        FeatureSolve x = Models.flat(13, 1);
        c.due("before solve()", Models.digits(x, 14), 0);
        x.solve();
        c.due("all", Models.digits(x, 14), 11111111111111L);
        x.choose(14, false);
        x.choose(2, false);
        x.group(3, 1, 1);
        c.due("told after solve()", Models.digits(x, 14), 11111111111111L);
        x.solve();
        c.due("without 2, 3 and 14", Models.digits(x, 14), 10011111111110L);
        FeatureSolve y = Models.rootOnly();
        y.solve();
        y.feature(1, 0);
        c.due("a feature told after solve()", y.chosen(2), false);
    }

    /** The last one found is the one, even if 200 are kept already. */
    private static void chosenInOneThatIsNotKept(Check c) {
        FeatureSolve x = Models.flat(1, 1);
        for (int i = 1; i <= 200; i++) {
            x.solve();
        }
        c.due("the 200th", Models.digits(x, 2), 11);
        x.choose(2, false);
        x.solve();
        c.due("the 201st", Models.digits(x, 2), 10);
    }

    /** "false if the last solve() found none" */
    private static void chosenFalseIfNoneFound(Check c) {
        FeatureSolve x = Models.flat(13, 1);
        x.solve();
        x.choose(1, false);
        c.due("not yet asked", x.chosen(1), true);
        x.solve();
        c.due("none", Models.digits(x, 14), 0);
        x.choose(-1, false);
        c.due("none as long as solve() isn't called", Models.digits(x, 14), 0);
        x.solve();
        c.due("found again", Models.digits(x, 14), 11111111111111L);
    }

    /** A number that is no feature's is in no variant. */
    private static void chosenOfNoFeature(Check c) {
        FeatureSolve x = Models.flat(13, 1);
        x.solve();
        c.dueOfAll("chosen()", Models.unknown(14), f -> x.chosen(f) ? 1 : 0, 0);
        for (int f = -14; f <= 0; f++) {
            c.due("chosen(" + f + ")", x.chosen(f), false);
        }
        for (int f = 15; f <= 78; f++) {
            c.due("chosen(" + f + ")", x.chosen(f), false);
        }
    }

    /** "CHOICES with which there is no VARIANT": all that are needed, none where the rest leaves none. */
    private static void whyIsWithoutVariant(Check c) {
        FeatureSolve one = Models.flat(1, 1);
        one.formula(1, 2, 2);
        one.choose(2, true);
        one.solve();
        c.due("one is enough", Models.why(one), "2");
        FeatureSolve all = Models.flat(13, 1);
        for (int f = 14; f >= 2; f--) {
            all.attribute(f, 2, 1);
            all.choose(f, true);
        }
        all.attribute(0, 2, 12);
        all.solve();
        c.due("all are needed", Models.why(all), "14 13 12 11 10 9 8 7 6 5 4 3 2");
        all.attribute(0, 2, -1);
        all.solve();
        c.due("none without any of them", Models.why(all), "");
        FeatureSolve fourteen = Models.flat(13, 1);
        for (int f = 1; f <= 14; f++) {
            fourteen.choose(f, true);
        }
        fourteen.choose(1, false);
        fourteen.solve();
        c.due("of 14 the last alone", Models.why(fourteen), "-1");
    }

    /** "in the order in which they were told", not by numbers */
    private static void whyInTheOrderTold(Check c) {
        FeatureSolve x = Models.flat(3, 1);
        for (int f = 2; f <= 4; f++) {
            x.attribute(f, 0, 1);
        }
        x.attribute(0, 0, 2);
        x.choose(4, true);
        x.choose(2, true);
        x.choose(3, true);
        x.solve();
        c.due("as told", Models.why(x), "4 2 3");
    }

    /** "going from the first one on, each that can go ... is gone" */
    private static void whyFromTheFirstOn(Check c) {
        FeatureSolve x = Models.flat(4, 1);
        x.formula(1, 2, 3);
        x.formula(1, 4, 5);
        for (int f = 2; f <= 5; f++) {
            x.choose(f, true);
        }
        x.solve();
        c.due("the later ones are left", Models.why(x), "4 5");
        x.choose(2, true);
        x.choose(3, true);
        x.solve();
        c.due("the later ones are left", Models.why(x), "2 3");
    }

    /** "(there is none without it, nor those gone before)" */
    private static void whyNorThoseGoneBefore(Check c) {
        FeatureSolve x = Models.flat(3, 1);
        x.formula(1, 2, 4);
        x.formula(1, 3, 4);
        x.choose(2, true);
        x.choose(3, true);
        x.choose(4, true);
        x.solve();
        c.due("3 could go only while 2 was there", Models.why(x), "3 4");
        FeatureSolve y = Models.flat(3, 1);
        y.formula(2, 2, 4);
        y.formula(2, 3, 4);
        y.choose(2, false);
        y.choose(3, false);
        y.choose(4, false);
        y.solve();
        c.due("-3 could go only while -2 was there", Models.why(y), "-3 -4");
    }

    /** "its feature, negative if it must not be" */
    private static void whyNegativeIfMustNot(Check c) {
        FeatureSolve x = Models.flat(2, 1);
        x.formula(0, 2, 3);
        x.choose(3, false);
        x.choose(2, true);
        x.solve();
        c.due("one of each", Models.why(x), "-3 2");
        FeatureSolve y = Models.flat(13, 1);
        y.formula(2, 13, 14);
        y.choose(14, false);
        y.choose(13, false);
        y.solve();
        c.due("both", Models.why(y), "-14 -13");
        FeatureSolve z = Models.flat(2, 1);
        z.formula(1, 2, 3);
        z.choose(2, true);
        z.choose(3, true);
        z.solve();
        c.due("neither", Models.why(z), "2 3");
    }

    /** "0 if there is none": before the first, behind the last, and before any solve() */
    private static void whyZeroIfThereIsNone(Check c) {
        FeatureSolve x = Models.stuck();
        c.due("why(0)", x.why(0), 7);
        c.due("why(1)", x.why(1), -2);
        c.due("why(2)", x.why(2), 0);
        c.dueOfAll("why()", new int[] {-1, -2, 3, 13, 14, 15, 32, 64, LARGEST, SMALLEST}, x::why, 0);
        FeatureSolve unsolved = Models.flat(1, 1);
        unsolved.choose(1, false);
        c.due("before solve()", unsolved.why(0), 0);
    }

    /** "or solve() found one" */
    private static void whyZeroIfOneWasFound(Check c) {
        FeatureSolve x = Models.stuck();
        x.choose(7, false);
        c.due("solve()", x.solve(), 1);
        for (int i = -1; i <= 14; i++) {
            c.due("why(" + i + ")", x.why(i), 0);
        }
    }

    /** "The WHY of the last solve()": nothing told since changes it, and one before leaves nothing in it. */
    private static void whyOfTheLastSolve(Check c) {
        FeatureSolve x = Models.stuck();
        x.choose(-7, true);
        x.choose(3, true);
        x.feature(1, 0);
        x.count(STEPS);
        x.forces(1, 0);
        c.due("as it was", Models.why(x), "7 -2");
        x.choose(1, false);
        x.solve();
        c.due("the new one alone", Models.why(x), "-1");
        c.due("nothing behind it", x.why(1), 0);
    }

    /** "How many VARIANTS keep all" */
    private static void countKeepsAll(Check c) {
        c.due("none told", new FeatureSolve().count(STEPS), 1);
        c.due("the most there are", Models.flat(13, 1).count(STEPS), 8192);
        FeatureSolve x = Models.flat(13, 1);
        x.choose(14, true);
        c.due("choices too", x.count(STEPS), 4096);
        x.choose(1, false);
        c.due("none left", x.count(STEPS), 0);
    }

    /** "-2 steps are below 0" */
    private static void countStepsBelowZero(Check c) {
        for (long steps : new long[] {-1, -2, -128, -STEPS, -(1L << 32), (1L << 32) - (1L << 33) + 1, -Long.MAX_VALUE, Long.MIN_VALUE}) {
            c.due("count(" + steps + ") of none", new FeatureSolve().count(steps), -2);
            Probe.refused(c, "count(" + steps + ")", Models::busy, x -> x.count(steps), -2);
            c.due("count(" + steps + ") of 14", Models.fullTree().count(steps), -2);
        }
    }

    /** "-1 if there are n features and 2^n is above the steps": whatever keeps them from being variants */
    private static void countStepsTooFew(Check c) {
        for (int n = 0; n <= 14; n++) {
            FeatureSolve x = Models.chain(n, 0);
            long steps = 1L << n;
            c.due(n + " features, count(0)", x.count(0), -1);
            c.due(n + " features, count(" + (steps - 1) + ")", x.count(steps - 1), -1);
            c.due(n + " features, count(" + steps + ")", x.count(steps), 1);
            c.due(n + " features, count(" + (steps + 1) + ")", x.count(steps + 1), 1);
        }
        FeatureSolve none = Models.rootOnly();
        none.choose(1, false);
        c.due("too few even for none", none.count(1), -1);
        c.due("none", none.count(2), 0);
        Probe.refused(c, "count(127)", Models::busy, x -> x.count(127), -1);
        Probe.refused(c, "count(0)", Models::stuck, x -> x.count(0), -1);
    }

    /** Steps beyond an int are as many as they say. */
    private static void countLargeSteps(Check c) {
        FeatureSolve x = Models.flat(13, 1);
        for (int power = 14; power <= 62; power++) {
            c.due("count(2^" + power + ")", x.count(1L << power), 8192);
        }
        c.due("count(largest)", x.count(Long.MAX_VALUE), 8192);
        c.due("count(2^32 + 1)", x.count((1L << 32) + 1), 8192);
    }

    /** "With the CHOICES and this feature in it" */
    private static void forcesWithChoicesAndThisFeature(Check c) {
        FeatureSolve x = Models.flat(4, 1);
        x.formula(0, 2, 3);
        x.formula(0, 4, 5);
        c.due("of 2", Models.forces(x, 2), "1 3");
        c.due("of 4", Models.forces(x, 4), "1 5");
        x.choose(4, true);
        c.due("of 2 with 4", Models.forces(x, 2), "1 3 4 5");
        c.due("of 4 itself", Models.forces(x, 4), "1 5");
        x.choose(5, false);
        x.choose(-4, true);
        c.due("of 2 without 5", Models.forces(x, 2), "1 3 -4 -5");
    }

    /** "the i-th (from 0) of the other features, by numbers" */
    private static void forcesTheOthersByNumbers(Check c) {
        FeatureSolve x = Models.chain(14, 0);
        for (int f = 1; f <= 14; f++) {
            for (int i = 0; i < 13; i++) {
                c.due("forces(" + f + ", " + i + ")", x.forces(f, i), i + 1 < f ? i + 1 : i + 2);
            }
            c.due("forces(" + f + ", 13)", x.forces(f, 13), 0);
        }
    }

    /** "that are in all VARIANTS (its number) or in none (negative)": one of many variants makes it free. */
    private static void forcesInAllOrInNone(Check c) {
        FeatureSolve x = Models.flat(13, 1);
        c.due("all are free", Models.forces(x, 1), "");
        for (int f = 2; f <= 13; f++) {
            x.attribute(f, 0, 1);
        }
        x.attribute(14, 0, 12);
        x.attribute(0, 0, 12);
        c.due("13 alone leaves out 14", Models.forces(x, 13), "1 -14");
        c.due("14 leaves out all others", Models.forces(x, 14), "1 -2 -3 -4 -5 -6 -7 -8 -9 -10 -11 -12 -13");
        c.due("2 is in half, 14 in one", Models.forces(x, 1), "");
        x.attribute(0, 1, -12);
        for (int f = 2; f <= 13; f++) {
            x.attribute(f, 1, -1);
        }
        x.attribute(14, 1, -12);
        c.due("all but 14, or 14 alone", Models.forces(x, 1), "");
        c.due("all but 14", Models.forces(x, 2), "1 3 4 5 6 7 8 9 10 11 12 13 -14");
    }

    /** "those with a CHOICE count" */
    private static void forcesThoseWithChoiceCount(Check c) {
        FeatureSolve x = Models.flat(3, 1);
        x.choose(4, false);
        x.choose(3, true);
        x.choose(1, true);
        c.due("of 2", Models.forces(x, 2), "1 3 -4");
        c.due("of 1", Models.forces(x, 1), "3 -4");
        c.due("of 3", Models.forces(x, 3), "1 -4");
    }

    /** "0 if there is none" */
    private static void forcesZeroIfThereIsNone(Check c) {
        c.due("the root alone", Models.rootOnly().forces(1, 0), 0);
        c.due("nothing is forced", Models.flat(2, 1).forces(1, 0), 0);
        FeatureSolve x = Models.flat(1, 0);
        c.due("the first", x.forces(2, 0), 1);
        c.due("no second", x.forces(2, 1), 0);
        c.dueOfAll("forces(2)", new int[] {-1, -2, 14, 15, 32, 64, LARGEST, SMALLEST}, i -> x.forces(2, i), 0);
    }

    /** "or no VARIANT" */
    private static void forcesZeroIfNoVariant(Check c) {
        FeatureSolve x = Models.flat(2, 1);
        x.feature(1, 0);
        x.formula(1, 2, 3);
        x.choose(2, true);
        c.due("2 leaves out 3", x.forces(2, 0), 1);
        for (int i = -1; i <= 4; i++) {
            c.due("not with 3, " + i, x.forces(3, i), 0);
        }
        x.choose(2, false);
        for (int i = -1; i <= 4; i++) {
            c.due("2 must not be, " + i, x.forces(2, i), 0);
        }
        x.choose(4, false);
        for (int f = 1; f <= 4; f++) {
            c.due("none at all, " + f, x.forces(f, 0), 0);
        }
    }

    /** "-1 there is no such feature", whatever i is, and though there is no variant */
    private static void forcesNoFeature(Check c) {
        for (int f : Models.unknown(7)) {
            Probe.refused(c, "forces(" + f + ", 0)", Models::busy, x -> x.forces(f, 0), -1);
            c.due("forces(" + f + ", -1)", Models.busy().forces(f, -1), -1);
            c.due("forces(" + f + ", LARGEST)", Models.busy().forces(f, LARGEST), -1);
            c.due("forces(" + f + ", 0) without a variant", Models.stuck().forces(f, 0), -1);
        }
        for (int f = -7; f <= 0; f++) {
            c.due("forces(" + f + ", 0)", Models.busy().forces(f, 0), -1);
        }
        c.due("of no features", new FeatureSolve().forces(1, 0), -1);
        c.due("of 14", Models.fullTree().forces(15, 0), -1);
        c.due("the last of 14", Models.fullTree().forces(14, 0), 1);
    }

    /** Asking is no CHOICE, and is no solve() either. */
    private static void forcesIsNoChoice(Check c) {
        for (int f = 1; f <= 7; f++) {
            FeatureSolve x = Models.busy();
            for (int i = -1; i <= 7; i++) {
                x.forces(f, i);
            }
            c.due("asked of " + f, Probe.of(x), Probe.of(Models.busy()));
        }
    }

    /** "How many features two FOUND ones differ in": 0 to 14 */
    private static void differHowMany(Check c) {
        FeatureSolve x = new FeatureSolve();
        x.solve();
        x.feature(0, 0);
        for (int f = 2; f <= 14; f++) {
            x.feature(1, 1);
        }
        x.solve();
        c.due("none and all", x.differ(1, 2), 14);
        c.due("all and none", x.differ(2, 1), 14);
        for (int f = 2; f <= 14; f++) {
            x.choose(f, false);
            x.solve();
            c.due("without 2 to " + f, x.differ(2, f + 1), f - 1);
            c.due("the other way round", x.differ(f + 1, 2), f - 1);
            c.due("with none", x.differ(1, f + 1), 15 - f);
            c.due("with itself", x.differ(f + 1, f + 1), 0);
        }
        x.choose(2, true);
        x.solve();
        c.due("2 for none", x.differ(15, 16), 1);
        c.due("2 for 14", x.differ(14, 16), 2);
    }

    /** "-1 one is not there": the one, the other, both */
    private static void differOneIsNotThere(Check c) {
        c.due("none found", new FeatureSolve().differ(1, 1), -1);
        int[] absent = {3, 4, 0, -1, -2, 200, 201, 32, 33, 64, LARGEST, SMALLEST};
        for (int v : absent) {
            c.due("differ(1, " + v + ")", Models.busy().differ(1, v), -1);
            c.due("differ(" + v + ", 2)", Models.busy().differ(v, 2), -1);
            Probe.refused(c, "differ(" + v + ", " + v + ")", Models::busy, x -> x.differ(v, v), -1);
        }
        c.due("both are there", Models.busy().differ(1, 2), 2);
        FeatureSolve x = Models.stuck();
        c.due("found before the last solve() found none", x.differ(1, 2), 2);
        c.due("none is no third", x.differ(2, 3), -1);
    }

    /** "How many features are above feature i + 1" */
    private static void levelHowManyAbove(Check c) {
        for (int kind = 0; kind <= 2; kind++) {
            FeatureSolve chain = Models.chain(14, kind);
            FeatureSolve flat = Models.flat(13, kind);
            for (int i = 0; i <= 13; i++) {
                c.due("chain, level(" + i + ")", chain.level(i), i);
                c.due("flat, level(" + i + ")", flat.level(i), i == 0 ? 0 : 1);
            }
        }
        FeatureSolve tree = new FeatureSolve();
        int[] above = {0, 1, 1, 2, 2, 2, 2, 3, 3, 3, 3, 3, 3, 3};
        for (int f = 1; f <= 14; f++) {
            tree.feature(f / 2, 1);
            c.due("tree, level(" + (f - 1) + ")", tree.level(f - 1), above[f - 1]);
        }
    }

    /** "ArrayIndexOutOfBoundsException when there is no such feature" */
    private static void levelNoSuchFeature(Check c) {
        for (int n = 0; n <= 14; n++) {
            FeatureSolve x = Models.chain(n, 1);
            for (int i : new int[] {n, n + 1, 14, 15, 32, 64, -1, -2, -14, LARGEST, LARGEST - 1, SMALLEST, SMALLEST + 1}) {
                c.throwsAtLevel(x, i);
            }
            c.due("variants after it", x.count(STEPS), n == 0 ? 1 : n);
            if (n > 0) {
                c.due("the last there is", x.level(n - 1), n - 1);
            }
        }
        FeatureSolve busy = Models.busy();
        c.throwsAtLevel(busy, 7);
        c.due("level(7) changes nothing:", Probe.of(busy), Probe.of(Models.busy()));
    }
}
