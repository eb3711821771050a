/** The document's Terms: each sentence that names a boundary case has a test of its own. */
public final class TermsTest {
    private static final long STEPS = Models.STEPS;

    public static void main(String[] args) {
        Check c = new Check("terms");
        numberedFromOneToFourteen(c);
        parentToldBefore(c);
        kinds(c);
        rootIsInIfThereIsOne(c);
        inOnlyIfParentIs(c);
        mandatoryIfParentIs(c);
        optionalAsOneLikes(c);
        groupedWithoutGroup(c);
        groupedLeast(c);
        groupedMost(c);
        groupedNone(c);
        groupedAll(c);
        groupedOnlyBelowThat(c);
        groupedIfParentIsIn(c);
        groupWithoutGroupedOnes(c);
        groupOfEachFeature(c);
        formulasAtMostForty(c);
        negativeIsNotIn(c);
        formulaOps(c);
        attributesAtFirstZero(c);
        limitMayBe(c);
        sumAtMostThat(c);
        sumOverThoseThatAreIn(c);
        choiceMustBeOrMustNot(c);
        theFirst(c);
        theFirstByItsEarliestFeature(c);
        refusalThatFitsFirst(c);
        c.end();
    }

    /** "FEATURES are numbered from 1 on, at most 14" */
    private static void numberedFromOneToFourteen(Check c) {
        FeatureSolve x = new FeatureSolve();
        for (int f = 1; f <= 14; f++) {
            c.due("feature number " + f, x.feature(f / 2, f % 3), f);
        }
        c.due("a fifteenth", x.feature(1, 1), -4);
        c.due("a sixteenth", x.feature(1, 1), -4);
    }

    /** "each other one has a PARENT told before" */
    private static void parentToldBefore(Check c) {
        FeatureSolve x = new FeatureSolve();
        for (int f = 1; f <= 13; f++) {
            c.due("the one told last as a parent, of " + f, x.feature(f - 1, 1), f);
            c.due("itself as a parent, of " + (f + 1), x.feature(f + 1, 1), -1);
        }
        c.due("the thirteenth as a parent", x.feature(13, 1), 14);
        c.due("variants of a chain of 14", x.count(STEPS), 14);
    }

    /** "a KIND: 0 MANDATORY, 1 OPTIONAL, 2 GROUPED" */
    private static void kinds(Check c) {
        int[] variants = {1, 2, 2};
        int[] inGroup = {0, 0, 1};
        for (int kind = 0; kind <= 2; kind++) {
            FeatureSolve x = Models.flat(1, kind);
            c.due("variants with one of kind " + kind, x.count(STEPS), variants[kind]);
            c.due("grouped with one of kind " + kind, x.group(1, 0, 0), inGroup[kind]);
            c.due("variants with a group of none, kind " + kind, x.count(STEPS), kind == 1 ? 2 : 1);
        }
    }

    /** "the ROOT is in it, if there is one" */
    private static void rootIsInIfThereIsOne(Check c) {
        FeatureSolve none = new FeatureSolve();
        c.due("variants without a root", none.count(STEPS), 1);
        none.solve();
        c.due("not in without a root", none.chosen(1), false);
        for (int kind = 0; kind <= 2; kind++) {
            FeatureSolve x = new FeatureSolve();
            x.feature(0, kind);
            c.due("variants of a root of kind " + kind, x.count(STEPS), 1);
            x.solve();
            c.due("in as a root of kind " + kind, x.chosen(1), true);
            x.choose(1, false);
            c.due("variants without the root of kind " + kind, x.count(STEPS), 0);
        }
    }

    /** "a feature is in it only if its PARENT is" */
    private static void inOnlyIfParentIs(Check c) {
        for (int kind = 0; kind <= 2; kind++) {
            FeatureSolve x = Models.flat(2, 1);
            x.feature(3, kind);
            x.choose(4, true);
            c.due("with the parent, kind " + kind, x.count(STEPS), 2);
            x.choose(3, false);
            c.due("without the parent, kind " + kind, x.count(STEPS), 0);
        }
        FeatureSolve chain = Models.chain(14, 1);
        chain.choose(14, true);
        c.due("the last of a chain brings all", chain.count(STEPS), 1);
        chain.choose(-14, true);
        chain.choose(2, false);
        c.due("without the second none of the others is", chain.count(STEPS), 1);
        chain.solve();
        c.due("without the second", Models.digits(chain, 14), 10000000000000L);
    }

    /** "a MANDATORY one is if its PARENT is" */
    private static void mandatoryIfParentIs(Check c) {
        FeatureSolve x = Models.flat(1, 1);
        x.feature(2, 0);
        x.feature(3, 0);
        c.due("both ways", x.count(STEPS), 2);
        x.choose(4, false);
        c.due("not in where the parent's parent isn't", x.count(STEPS), 1);
        x.choose(2, true);
        c.due("not out where the parent's parent is in", x.count(STEPS), 0);
        c.due("a chain of them", Models.chain(14, 0).count(STEPS), 1);
    }

    /** "1 OPTIONAL": nothing but its PARENT binds it, a group of its PARENT neither. */
    private static void optionalAsOneLikes(Check c) {
        FeatureSolve x = Models.flat(13, 1);
        c.due("13 of them", x.count(STEPS), 8192);
        x.group(1, 0, 0);
        c.due("13 of them below a group of none", x.count(STEPS), 8192);
    }

    /** "as many as that one's group says, if it has one": without one none to all of them. */
    private static void groupedWithoutGroup(Check c) {
        c.due("13 grouped ones without a group", Models.flat(13, 2).count(STEPS), 8192);
    }

    /** "LEAST" */
    private static void groupedLeast(Check c) {
        int[] due = {16, 15, 11, 5, 1};
        for (int least = 0; least <= 4; least++) {
            FeatureSolve x = Models.flat(4, 2);
            x.group(1, least, 14);
            c.due("least " + least + " of 4", x.count(STEPS), due[least]);
        }
    }

    /** "to MOST" */
    private static void groupedMost(Check c) {
        int[] due = {1, 5, 11, 15, 16, 16};
        for (int most = 0; most <= 5; most++) {
            FeatureSolve x = Models.flat(4, 2);
            x.group(1, 0, most);
            c.due("most " + most + " of 4", x.count(STEPS), due[most]);
        }
    }

    /** LEAST and MOST both 0: none of them is in. */
    private static void groupedNone(Check c) {
        FeatureSolve x = Models.flat(13, 2);
        x.group(1, 0, 0);
        c.due("0 to 0 of 13", x.count(STEPS), 1);
        x.solve();
        c.due("none of them", Models.digits(x, 14), 10000000000000L);
    }

    /** LEAST and MOST as many as there can be, and one more. */
    private static void groupedAll(Check c) {
        FeatureSolve x = Models.flat(13, 2);
        x.group(1, 13, 13);
        c.due("13 to 13 of 13", x.count(STEPS), 1);
        x.group(1, 13, 14);
        c.due("13 to 14 of 13", x.count(STEPS), 1);
        x.group(1, 14, 14);
        c.due("14 to 14 of 13", x.count(STEPS), 0);
        x.group(1, 0, 14);
        c.due("0 to 14 of 13", x.count(STEPS), 8192);
    }

    /** "of the GROUPED ones whose PARENT is in it": others below it, and those below these, don't count. */
    private static void groupedOnlyBelowThat(Check c) {
        FeatureSolve x = Models.flat(1, 0);
        x.feature(1, 1);
        x.feature(1, 2);
        x.feature(4, 2);
        x.feature(2, 2);
        c.due("one below it", x.group(1, 1, 1), 1);
        c.due("4 is in, 3, 5 and 6 are free", x.count(STEPS), 8);
        x.choose(4, false);
        c.due("not without 4", x.count(STEPS), 0);
    }

    /** "whose PARENT is in it": where it isn't, its group asks nothing. */
    private static void groupedIfParentIsIn(Check c) {
        FeatureSolve x = Models.flat(1, 1);
        x.feature(2, 2);
        x.feature(2, 2);
        x.group(2, 2, 2);
        c.due("both or without the parent", x.count(STEPS), 2);
        x.choose(2, false);
        c.due("without the parent", x.count(STEPS), 1);
        x.choose(2, true);
        c.due("with the parent", x.count(STEPS), 1);
    }

    /** A group where there are no GROUPED ones is kept by a LEAST of 0 alone. */
    private static void groupWithoutGroupedOnes(Check c) {
        for (int f = 2; f <= 14; f++) {
            FeatureSolve x = Models.flat(13, 1);
            x.group(f, 0, 14);
            c.due("0 to 14 of none below " + f, x.count(STEPS), 8192);
            x.group(f, 1, 14);
            c.due("1 to 14 of none below " + f, x.count(STEPS), 4096);
        }
    }

    /** Each feature, the first as the last, has a group of its own. */
    private static void groupOfEachFeature(Check c) {
        for (int f = 1; f <= 13; f++) {
            FeatureSolve x = Models.chain(14, 2);
            c.due("without groups", x.count(STEPS), 14);
            x.group(f, 1, 1);
            c.due(f + " has the one below it", x.count(STEPS), 13);
            x.group(f, 0, 0);
            c.due(f + " is the last one that can be in", x.count(STEPS), f);
            x.group(f, 0, 1);
            c.due(f + " may have the one below it", x.count(STEPS), 14);
        }
    }

    /** "FORMULAS, at most 40": the fortieth is kept too, and no other is. */
    private static void formulasAtMostForty(Check c) {
        FeatureSolve x = Models.flat(2, 1);
        for (int i = 1; i <= 39; i++) {
            c.due("formula number " + i, x.formula(2, 1, 1), i);
        }
        c.due("39 that every variant keeps", x.count(STEPS), 4);
        c.due("formula number 40", x.formula(2, 2, 3), 40);
        c.due("the fortieth is kept", x.count(STEPS), 3);
        c.due("formula number 41", x.formula(1, 2, 3), -4);
        c.due("the forty-first isn't there", x.count(STEPS), 3);
    }

    /** "over two features, of which a negative number tells that it is not in it" */
    private static void negativeIsNotIn(Check c) {
        FeatureSolve x = Models.flat(1, 1);
        x.formula(2, -2, -2);
        c.due("-2 or -2", x.count(STEPS), 1);
        c.due("2 is not in", Models.forces(x, 1), "-2");
        x.formula(0, -2, -1);
        c.due("if -2 then -1", x.count(STEPS), 0);
        FeatureSolve last = Models.flat(13, 1);
        last.formula(3, -14, 13);
        c.due("one of 13 and 14", last.count(STEPS), 4096);
        last.formula(3, 14, -13);
        c.due("the same again", last.count(STEPS), 4096);
        last.formula(1, -14, -1);
        c.due("not both, of which one never is", last.count(STEPS), 4096);
        last.formula(2, -14, -1);
        c.due("one at least, of which one never is", last.count(STEPS), 2048);
    }

    /** "op 0 if a then b, 1 not both, 2 one at least, 3 both or neither": in each case of a and b. */
    private static void formulaOps(Check c) {
        int[][] keptInCase = {{1, 1, 0, 1}, {1, 1, 1, 0}, {0, 1, 1, 1}, {1, 0, 0, 1}};
        for (int op = 0; op <= 3; op++) {
            for (int both = 0; both < 4; both++) {
                FeatureSolve x = Models.flat(2, 1);
                x.formula(op, 2, 3);
                x.choose(2, both >= 2);
                x.choose(3, both % 2 == 1);
                c.due("op " + op + " in case " + both, x.count(STEPS), keptInCase[op][both]);
            }
        }
    }

    /** "ATTRIBUTES 0 .. 3 of a feature, at first 0" */
    private static void attributesAtFirstZero(Check c) {
        for (int what = 0; what <= 3; what++) {
            FeatureSolve x = Models.flat(13, 1);
            x.attribute(0, what, 0);
            c.due("limit 0 of " + what, x.count(STEPS), 8192);
            x.attribute(0, what, -1);
            c.due("limit -1 of " + what, x.count(STEPS), 0);
        }
    }

    /** "each may have a LIMIT": without one the largest sum is kept, and with that of another one too. */
    private static void limitMayBe(Check c) {
        for (int what = 0; what <= 3; what++) {
            FeatureSolve x = Models.chain(14, 0);
            for (int f = 1; f <= 14; f++) {
                x.attribute(f, what, 1000);
            }
            c.due("no limit of " + what, x.count(STEPS), 1);
            x.attribute(0, (what + 1) % 4, 0);
            c.due("a limit of another one than " + what, x.count(STEPS), 1);
            x.attribute(0, what, 10000);
            c.due("14000 above the limit of " + what, x.count(STEPS), 0);
        }
    }

    /** "the sum over features that are in it is at most that" */
    private static void sumAtMostThat(Check c) {
        for (int what = 0; what <= 3; what++) {
            FeatureSolve x = Models.chain(10, 0);
            for (int f = 1; f <= 10; f++) {
                x.attribute(f, what, 1000);
            }
            x.attribute(0, what, 9999);
            c.due("10000 above 9999, " + what, x.count(STEPS), 0);
            x.attribute(0, what, 10000);
            c.due("10000 is at most 10000, " + what, x.count(STEPS), 1);
            for (int f = 1; f <= 10; f++) {
                x.attribute(f, what, -1000);
            }
            x.attribute(0, what, -10000);
            c.due("-10000 is at most -10000, " + what, x.count(STEPS), 1);
            x.attribute(10, what, -999);
            c.due("-9999 above -10000, " + what, x.count(STEPS), 0);
        }
    }

    /** "the sum over features that are in it": those that are out don't count, those below 0 take away. */
    private static void sumOverThoseThatAreIn(Check c) {
        FeatureSolve x = Models.flat(2, 1);
        x.attribute(2, 1, 5);
        x.attribute(3, 1, -5);
        x.attribute(0, 1, 0);
        c.due("2 only with 3", x.count(STEPS), 3);
        x.attribute(0, 1, -1);
        c.due("3 without 2", x.count(STEPS), 1);
        c.due("3 without 2", Models.forces(x, 1), "-2 3");
        x.attribute(1, 1, -5);
        c.due("the root counts too", x.count(STEPS), 3);
    }

    /** "a feature must be in it, or must not" */
    private static void choiceMustBeOrMustNot(Check c) {
        for (int f = 2; f <= 14; f++) {
            FeatureSolve x = Models.flat(13, 1);
            x.choose(f, true);
            c.due("must be in: " + f, x.count(STEPS), 4096);
            x.solve();
            c.due("in: " + f, x.chosen(f), true);
            x.choose(f, false);
            c.due("must not: " + f, x.count(STEPS), 4096);
            x.solve();
            c.due("not in: " + f, x.chosen(f), false);
        }
    }

    /** "THE FIRST ... going through features by numbers": each of three is told before it is gone. */
    private static void theFirst(Check c) {
        long[] due = {1111, 1110, 1101, 1100, 1011, 1010, 1001, 1000};
        for (int gone = 0; gone < 8; gone++) {
            FeatureSolve x = Models.flat(3, 1);
            for (int f = 2; f <= 4; f++) {
                x.attribute(f, 0, 8 >> (f - 1));
            }
            x.attribute(0, 0, 7 - gone);
            x.solve();
            c.due("the first with a sum of at most " + (7 - gone), Models.digits(x, 4), due[gone]);
        }
    }

    /** "the one in which the first feature is that is not in both": all the later ones weigh less. */
    private static void theFirstByItsEarliestFeature(Check c) {
        for (int f = 2; f <= 13; f++) {
            FeatureSolve x = Models.flat(13, 1);
            long due = 1;
            for (int g = 2; g <= 14; g++) {
                if (g > f) {
                    x.formula(1, f, g);
                }
                due = due * 10 + (g <= f ? 1 : 0);
            }
            x.solve();
            c.due(f + " against all later ones", Models.digits(x, 14), due);
        }
    }

    /** "REFUSALS ... answer, the first that fits: -1, -2, -4": where two or three of them fit. */
    private static void refusalThatFitsFirst(Check c) {
        FeatureSolve none = new FeatureSolve();
        c.due("feature: -1 before -2", none.feature(1, 3), -1);
        c.due("group: -1 before -2", none.group(1, 2, 1), -1);
        c.due("formula: -1 before -2", none.formula(4, 1, 1), -1);
        c.due("attribute: -1 before -2", none.attribute(1, 4, 1001), -1);
        FeatureSolve full = Models.fullBoth();
        c.due("feature: -1 before -4", full.feature(0, 0), -1);
        c.due("feature: -2 before -4", full.feature(1, 3), -2);
        c.due("feature: -1 before -2 and -4", full.feature(15, 3), -1);
        c.due("formula: -1 before -4", full.formula(0, 15, 1), -1);
        c.due("formula: -1 before -4, of b", full.formula(0, 1, -15), -1);
        c.due("formula: -2 before -4", full.formula(4, 1, 2), -2);
        c.due("formula: -1 before -2 and -4", full.formula(-1, 0, 1), -1);
        c.due("formula: -4 before 0", full.formula(0, 1, 1), -4);
        c.due("count: -2 before -1", full.count(-1), -2);
        c.due("count: -1 alone", full.count(0), -1);
    }
}
