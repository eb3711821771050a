/** Each promise by ordinary inputs, by the edges that the document names, and by wrong inputs. */
public final class PromisesTest {
    private static final int SMALLEST = Integer.MIN_VALUE;
    private static final int LARGEST = Integer.MAX_VALUE;

    public static void main(String[] args) {
        Check check = new Check("promises");
        newObject(check);
        feature(check);
        featureKinds(check);
        group(check);
        groupOfTheLast(check);
        groupRefusals(check);
        formulaOps(check);
        formulaTrivial(check);
        formulaRefusals(check);
        attribute(check);
        attributeRefusals(check);
        choose(check);
        solve(check);
        solveOrder(check);
        chosen(check);
        why(check);
        whyOrder(check);
        count(check);
        forces(check);
        differ(check);
        level(check);
        check.end();
    }

    /** A root with this many optional features below it. */
    private static FeatureSolve rootWith(int optional) {
        FeatureSolve x = new FeatureSolve();
        x.feature(0, 0);
        for (int i = 0; i < optional; i++) {
            x.feature(1, 1);
        }
        return x;
    }

    /** The features of the last variant found as digits of 0 and 1, the first feature first. */
    private static long digits(FeatureSolve x, int features) {
        long digits = 0;
        for (int f = 1; f <= features; f++) {
            digits = digits * 10 + (x.chosen(f) ? 1 : 0);
        }
        return digits;
    }

    private static void newObject(Check c) {
        FeatureSolve x = new FeatureSolve();
        c.due("1: count(1)", x.count(1), 1);
        c.due("1: chosen(1)", x.chosen(1), false);
        c.due("1: why(0)", x.why(0), 0);
        c.due("1: differ(1, 1)", x.differ(1, 1), -1);
        c.due("1: forces(1, 0)", x.forces(1, 0), -1);
        c.due("1: choose(1, true)", x.choose(1, true), -1);
        c.due("1: group(1, 0, 0)", x.group(1, 0, 0), -1);
        c.due("1: formula(0, 1, 1)", x.formula(0, 1, 1), -1);
        c.throwsAtLevel(x, 0);
        c.due("1: solve()", x.solve(), 1);
        c.due("1: differ(1, 1)", x.differ(1, 1), 0);
        FeatureSolve y = new FeatureSolve();
        c.due("1: attribute(0, 3, -1)", y.attribute(0, 3, -1), 1);
        c.due("1: count(1) with a limit below 0", y.count(1), 0);
        c.due("1: solve() with a limit below 0", y.solve(), 0);
        c.due("1: why(0) with a limit below 0", y.why(0), 0);
    }

    private static void feature(Check c) {
        FeatureSolve x = new FeatureSolve();
        c.due("2: feature(1, 0) without a root", x.feature(1, 0), -1);
        c.due("2: feature(-1, 0) without a root", x.feature(-1, 0), -1);
        c.due("2: feature(1, 9) without a root", x.feature(1, 9), -1);
        c.due("2: feature(0, 3)", x.feature(0, 3), -2);
        c.due("2: feature(0, -1)", x.feature(0, -1), -2);
        c.due("2: count(1) after refusals", x.count(1), 1);
        c.due("2: feature(0, 1)", x.feature(0, 1), 1);
        c.due("2: feature(0, 0) with a root", x.feature(0, 0), -1);
        c.due("2: feature(2, 0) of itself", x.feature(2, 0), -1);
        c.due("2: feature(-1, 0)", x.feature(-1, 0), -1);
        for (int f = 2; f <= 14; f++) {
            c.due("2: feature(" + (f - 1) + ", 0)", x.feature(f - 1, 0), f);
        }
        c.due("2: feature(1, 0), no room", x.feature(1, 0), -4);
        c.due("2: feature(14, 2), no room", x.feature(14, 2), -4);
        c.due("2: feature(1, 3) before no room", x.feature(1, 3), -2);
        c.due("2: feature(15, 3) before no kind", x.feature(15, 3), -1);
        c.due("2: count of a chain", x.count(16384), 1);
    }

    private static void featureKinds(Check c) {
        for (int kind = 0; kind <= 2; kind++) {
            FeatureSolve x = new FeatureSolve();
            x.feature(0, kind);
            c.due("2: the root is in, kind " + kind, x.count(2), 1);
            x.feature(1, 0);
            c.due("2: a mandatory one", x.count(4), 1);
            x.feature(1, 1);
            c.due("2: an optional one", x.count(8), 2);
            x.feature(3, 0);
            c.due("2: a mandatory one of an optional one", x.count(16), 2);
            x.feature(3, 2);
            c.due("2: a grouped one without a group", x.count(32), 3);
            x.choose(5, true);
            c.due("2: a feature brings its parent", x.count(32), 1);
            x.choose(5, false);
            x.choose(4, true);
            c.due("2: a mandatory one in has its parent in", x.count(32), 1);
            x.choose(3, false);
            c.due("2: not without its parent", x.count(32), 0);
        }
    }

    private static void group(Check c) {
        FeatureSolve x = rootWith(2);
        c.due("3: group without grouped ones", x.group(3, 0, 14), 0);
        x.feature(2, 2);
        x.feature(2, 1);
        x.feature(2, 2);
        x.feature(2, 2);
        c.due("3: only grouped ones below it count", x.group(2, 2, 2), 3);
        c.due("3: two of three, or none", x.count(128), 14);
        c.due("3: instead of the one before", x.group(2, 0, 1), 3);
        c.due("3: one of three at most", x.count(128), 18);
        c.due("3: group(2, 3, 3)", x.group(2, 3, 3), 3);
        c.due("3: three of three", x.count(128), 6);
        x.feature(2, 2);
        c.due("3: the group holds for later ones", x.count(256), 18);
        c.due("3: group(2, 5, 14)", x.group(2, 5, 14), 4);
        c.due("3: more than there are", x.count(256), 2);
        c.due("3: group(1, 0, 0)", x.group(1, 0, 0), 0);
        c.due("3: a group of none asks nothing", x.count(256), 2);
        c.due("3: group(1, 1, 1)", x.group(1, 1, 1), 0);
        c.due("3: a group of none can't have one", x.count(256), 0);
    }

    /** The last feature has no room for any below it. */
    private static void groupOfTheLast(Check c) {
        FeatureSolve x = rootWith(13);
        c.due("3: group(14, 1, 1)", x.group(14, 1, 1), 0);
        c.due("3: the last one can't have one", x.count(16384), 4096);
        c.due("3: group(14, 0, 1)", x.group(14, 0, 1), 0);
        c.due("3: the last one may have none", x.count(16384), 8192);
    }

    private static void groupRefusals(Check c) {
        FeatureSolve x = new FeatureSolve();
        x.feature(0, 0);
        x.feature(1, 2);
        x.feature(1, 2);
        x.group(1, 1, 1);
        c.due("3: group(0, 0, 2)", x.group(0, 0, 2), -1);
        c.due("3: group(4, 0, 2)", x.group(4, 0, 2), -1);
        c.due("3: group(-1, 0, 2)", x.group(-1, 0, 2), -1);
        c.due("3: group(4, 2, 1), unknown first", x.group(4, 2, 1), -1);
        c.due("3: group(1, -1, 2)", x.group(1, -1, 2), -2);
        c.due("3: group(1, 2, 1)", x.group(1, 2, 1), -2);
        c.due("3: group(1, 0, 15)", x.group(1, 0, 15), -2);
        c.due("3: group(1, 15, 15)", x.group(1, 15, 15), -2);
        c.due("3: refusals change nothing", x.count(8), 2);
        c.due("3: group(1, 0, 14)", x.group(1, 0, 14), 2);
        c.due("3: the widest group", x.count(8), 4);
        c.due("3: group(1, 14, 14)", x.group(1, 14, 14), 2);
        c.due("3: the narrowest group", x.count(8), 0);
    }

    /** Features 2 and 3 are free: each row tells which of 11, 10, 01, 00 an op leaves. */
    private static void formulaOps(Check c) {
        int[][] due = {{1, 0, 1, 1}, {0, 1, 1, 1}, {1, 1, 1, 0}, {1, 0, 0, 1}};
        for (int op = 0; op < 4; op++) {
            for (int signs = 0; signs < 4; signs++) {
                FeatureSolve x = rootWith(2);
                int a = (signs & 2) != 0 ? -2 : 2;
                int b = (signs & 1) != 0 ? -3 : 3;
                c.due("4: a first formula's number", x.formula(op, a, b), 1);
                for (int v = 0; v < 4; v++) {
                    x.choose(2, (v & 2) == 0);
                    x.choose(3, (v & 1) == 0);
                    c.due("4: op " + op + " of " + a + ", " + b + " in case " + v, x.count(8), due[op][v ^ signs]);
                }
            }
        }
    }

    private static void formulaTrivial(Check c) {
        int[][] same = {{1, 0}, {0, 1}, {0, 1}, {1, 0}};
        for (int op = 0; op < 4; op++) {
            for (int opposite = 0; opposite < 2; opposite++) {
                FeatureSolve x = rootWith(1);
                int b = opposite == 0 ? 2 : -2;
                boolean always = same[op][opposite] == 1;
                c.due("4: op " + op + " of 2, " + b, x.formula(op, 2, b), always ? 0 : 1);
                c.due("4: op " + op + " of -2, " + -b, x.formula(op, -2, -b), always ? 0 : 2);
                c.due("4: the next number", x.formula(2, 1, 1), always ? 1 : 3);
            }
        }
        FeatureSolve x = rootWith(1);
        c.due("4: true by the tree alone is a formula", x.formula(0, 2, 1), 1);
        c.due("4: told twice is two", x.formula(0, 2, 1), 2);
        c.due("4: never true is a formula", x.formula(3, 2, -2), 3);
        c.due("4: and leaves no variant", x.count(4), 0);
    }

    private static void formulaRefusals(Check c) {
        FeatureSolve x = rootWith(1);
        int[] unknown = {0, 3, -3, SMALLEST, LARGEST};
        for (int f : unknown) {
            c.due("4: formula(1, " + f + ", 1)", x.formula(1, f, 1), -1);
            c.due("4: formula(1, 1, " + f + ")", x.formula(1, 1, f), -1);
            c.due("4: formula(4, 1, " + f + "), unknown first", x.formula(4, 1, f), -1);
        }
        c.due("4: formula(-1, 1, 2)", x.formula(-1, 1, 2), -2);
        c.due("4: formula(4, 1, 1)", x.formula(4, 1, 1), -2);
        c.due("4: refusals change nothing", x.count(4), 2);
        for (int i = 1; i <= 40; i++) {
            c.due("4: formula " + i, x.formula(2, 1, 2), i);
        }
        c.due("4: formula(1, 1, 2), no room", x.formula(1, 1, 2), -4);
        c.due("4: formula(0, 1, 1), no room first", x.formula(0, 1, 1), -4);
        c.due("4: formula(4, 1, 1) before no room", x.formula(4, 1, 1), -2);
        c.due("4: formula(4, 9, 1) before no op", x.formula(4, 9, 1), -1);
        c.due("4: no room changes nothing", x.count(4), 2);
    }

    private static void attribute(Check c) {
        for (int what = 0; what < 4; what++) {
            FeatureSolve x = rootWith(3);
            c.due("5: attribute(2)", x.attribute(2, what, 5), 1);
            c.due("5: attribute(3)", x.attribute(3, what, 7), 1);
            c.due("5: attribute(4)", x.attribute(4, what, -4), 1);
            c.due("5: no limit at first", x.count(16), 8);
            c.due("5: limit 7", x.attribute(0, what, 7), 1);
            c.due("5: all but 2 and 3 without 4, and of them 8", x.count(16), 6);
            c.due("5: limit 8", x.attribute(0, what, 8), 1);
            c.due("5: the sum may be the limit", x.count(16), 7);
            c.due("5: limit -4", x.attribute(0, what, -4), 1);
            c.due("5: only with 4 alone", x.count(16), 1);
            c.due("5: limit of another one", x.attribute(0, (what + 1) % 4, 0), 1);
            c.due("5: limits stand by each other", x.count(16), 1);
            c.due("5: attribute(4) told again", x.attribute(4, what, -9), 1);
            c.due("5: instead of the one before", x.count(16), 2);
            c.due("5: the root counts too", x.attribute(1, what, 1), 1);
            c.due("5: with the root", x.count(16), 1 + (-9 + 5 + 1 <= -4 ? 1 : 0));
            c.due("5: the root's least", x.attribute(1, what, 9), 1);
            c.due("5: none is left", x.count(16), 0);
        }
    }

    private static void attributeRefusals(Check c) {
        FeatureSolve x = rootWith(1);
        c.due("5: attribute(3, 0, 1)", x.attribute(3, 0, 1), -1);
        c.due("5: attribute(-1, 0, 1)", x.attribute(-1, 0, 1), -1);
        c.due("5: attribute(3, 4, 1001), unknown first", x.attribute(3, 4, 1001), -1);
        c.due("5: attribute(2, -1, 1)", x.attribute(2, -1, 1), -2);
        c.due("5: attribute(2, 4, 1)", x.attribute(2, 4, 1), -2);
        c.due("5: attribute(0, 4, 1)", x.attribute(0, 4, 1), -2);
        c.due("5: attribute(0, -1, 1)", x.attribute(0, -1, 1), -2);
        c.due("5: attribute(2, 0, 1001)", x.attribute(2, 0, 1001), -2);
        c.due("5: attribute(2, 0, -1001)", x.attribute(2, 0, -1001), -2);
        c.due("5: attribute(0, 0, 10001)", x.attribute(0, 0, 10001), -2);
        c.due("5: attribute(0, 0, -10001)", x.attribute(0, 0, -10001), -2);
        c.due("5: attribute(0, 0, SMALLEST)", x.attribute(0, 0, SMALLEST), -2);
        c.due("5: attribute(2, 0, LARGEST)", x.attribute(2, 0, LARGEST), -2);
        c.due("5: attribute(2, 0, 1000)", x.attribute(2, 0, 1000), 1);
        c.due("5: attribute(0, 0, 999)", x.attribute(0, 0, 999), 1);
        c.due("5: attribute(2, 0, 1001) again", x.attribute(2, 0, 1001), -2);
        c.due("5: attribute(0, 0, 10001) again", x.attribute(0, 0, 10001), -2);
        c.due("5: refusals change nothing", x.count(4), 1);
        c.due("5: attribute(2, 0, -1000)", x.attribute(2, 0, -1000), 1);
        c.due("5: attribute(0, 0, -1000)", x.attribute(0, 0, -1000), 1);
        c.due("5: the least sum", x.count(4), 1);
        c.due("5: attribute(0, 0, -10000)", x.attribute(0, 0, -10000), 1);
        c.due("5: the least limit", x.count(4), 0);
        for (int what = 0; what < 4; what++) {
            for (int f = 1; f <= 14; f++) {
                FeatureSolve one = rootWith(13);
                one.attribute(f, what, 1);
                one.attribute(0, what, 0);
                c.due("5: attribute(" + f + ", " + what + ", 1) alone", one.count(16384), f == 1 ? 0 : 4096);
            }
        }
        FeatureSolve y = rootWith(13);
        for (int f = 1; f <= 14; f++) {
            y.attribute(f, 2, 1000);
        }
        c.due("5: no limit at all", y.count(16384), 8192);
        c.due("5: attribute(0, 2, 10000)", y.attribute(0, 2, 10000), 1);
        c.due("5: the largest limit", y.count(16384), 8192 - 286 - 78 - 13 - 1);
    }

    private static void choose(Check c) {
        FeatureSolve x = rootWith(3);
        c.due("6: choose(2, true)", x.choose(2, true), 1);
        c.due("6: choose(3, false)", x.choose(3, false), 2);
        c.due("6: with choices", x.count(16), 2);
        c.due("6: choose(2, false), instead", x.choose(2, false), 2);
        c.due("6: both not", x.count(16), 2);
        c.due("6: solve()", x.solve(), 1);
        c.due("6: the first with choices", digits(x, 4), 1001);
        c.due("6: choose(-4, true), had none", x.choose(-4, true), 2);
        c.due("6: choose(-2, false)", x.choose(-2, false), 1);
        c.due("6: one is gone", x.count(16), 4);
        int[] unknown = {0, 5, -5, SMALLEST, LARGEST};
        for (int f : unknown) {
            c.due("6: choose(" + f + ", true)", x.choose(f, true), -1);
        }
        c.due("6: refusals change nothing", x.count(16), 4);
        c.due("6: choose(-3, true)", x.choose(-3, true), 0);
        c.due("6: none is left", x.count(16), 8);
        FeatureSolve y = rootWith(13);
        for (int f = 1; f <= 14; f++) {
            c.due("6: choose(" + f + ", true)", y.choose(f, true), f);
        }
        for (int f = 1; f <= 14; f++) {
            c.due("6: choose(" + f + ", true) again", y.choose(f, true), 14);
        }
        c.due("6: all are chosen", y.count(16384), 1);
    }

    private static void solve(Check c) {
        FeatureSolve x = rootWith(2);
        for (int i = 1; i <= 199; i++) {
            c.due("7: solve() " + i, x.solve(), 1);
        }
        c.due("7: the 199th is found", x.differ(199, 1), 0);
        c.due("7: the 200th is not yet", x.differ(200, 1), -1);
        x.choose(2, false);
        c.due("7: solve() 200", x.solve(), 1);
        c.due("7: the 200th is found", x.differ(200, 1), 1);
        x.choose(3, false);
        c.due("7: solve() 201", x.solve(), 1);
        c.due("7: the 201st is not kept", x.differ(201, 1), -1);
        c.due("7: the 200th is still the same", x.differ(200, 1), 1);
        c.due("7: but the 201st is the last", digits(x, 3), 100);
        x.choose(1, false);
        c.due("7: solve() without any", x.solve(), 0);
        c.due("7: there is a why", x.why(0), -1);
    }

    private static void solveOrder(Check c) {
        FeatureSolve x = rootWith(4);
        x.formula(1, 2, 3);
        c.due("7: solve()", x.solve(), 1);
        c.due("7: lower numbers come first", digits(x, 5), 11011);
        x.formula(1, 2, 4);
        x.formula(1, 2, 5);
        c.due("7: solve()", x.solve(), 1);
        c.due("7: though more features are in another", digits(x, 5), 11000);
        x.choose(5, true);
        c.due("7: solve()", x.solve(), 1);
        c.due("7: the first of those with 5", digits(x, 5), 10111);
        x.attribute(3, 0, 2);
        x.attribute(4, 0, 2);
        x.attribute(0, 0, 3);
        c.due("7: solve()", x.solve(), 1);
        c.due("7: the first within the limit", digits(x, 5), 10101);
    }

    private static void chosen(Check c) {
        FeatureSolve x = rootWith(1);
        c.due("8: before solve()", x.chosen(1), false);
        x.solve();
        c.due("8: chosen(1)", x.chosen(1), true);
        c.due("8: chosen(2)", x.chosen(2), true);
        c.due("8: chosen(0)", x.chosen(0), false);
        c.due("8: chosen(-1)", x.chosen(-1), false);
        c.due("8: chosen(3)", x.chosen(3), false);
        c.due("8: chosen(15)", x.chosen(15), false);
        c.due("8: chosen(33)", x.chosen(33), false);
        c.due("8: chosen(SMALLEST)", x.chosen(SMALLEST), false);
        c.due("8: chosen(LARGEST)", x.chosen(LARGEST), false);
        x.feature(1, 0);
        c.due("8: told after solve()", x.chosen(3), false);
        x.choose(2, false);
        c.due("8: a choice after solve()", x.chosen(2), true);
        x.solve();
        c.due("8: solved again", x.chosen(2), false);
        c.due("8: solved again", x.chosen(3), true);
        x.choose(3, false);
        c.due("8: solve()", x.solve(), 0);
        c.due("8: none found", x.chosen(1), false);
        x.choose(-3, false);
        c.due("8: not before solve()", x.chosen(1), false);
        x.solve();
        c.due("8: found again", x.chosen(1), true);
    }

    private static void why(Check c) {
        FeatureSolve x = rootWith(4);
        x.formula(0, 2, 3);
        c.due("9: before solve()", x.why(0), 0);
        x.choose(4, true);
        x.choose(2, true);
        x.choose(5, false);
        x.choose(3, false);
        c.due("9: solve()", x.solve(), 0);
        c.due("9: why(0)", x.why(0), 2);
        c.due("9: why(1)", x.why(1), -3);
        c.due("9: why(2)", x.why(2), 0);
        c.due("9: why(-1)", x.why(-1), 0);
        c.due("9: why(14)", x.why(14), 0);
        c.due("9: why(SMALLEST)", x.why(SMALLEST), 0);
        c.due("9: why(LARGEST)", x.why(LARGEST), 0);
        x.choose(-3, true);
        x.choose(2, false);
        c.due("9: the last solve()'s, whatever was told", x.why(0), 2);
        c.due("9: the last solve()'s, whatever was told", x.why(1), -3);
        c.due("9: solve()", x.solve(), 1);
        c.due("9: one was found", x.why(0), 0);
        x.formula(1, 1, 1);
        c.due("9: solve()", x.solve(), 0);
        c.due("9: none even without choices", x.why(0), 0);
        FeatureSolve y = rootWith(2);
        y.choose(2, false);
        y.choose(1, false);
        y.solve();
        c.due("9: one that must not be can go", y.why(0), -1);
        c.due("9: no more", y.why(1), 0);
    }

    /** Of 2 and 3, of 2 and 4, and of 5 and 6 not both: which is left hangs on the order. */
    private static void whyOrder(Check c) {
        FeatureSolve x = rootWith(5);
        x.formula(1, 2, 3);
        x.formula(1, 2, 4);
        x.formula(1, 5, 6);
        for (int f = 2; f <= 6; f++) {
            x.choose(f, true);
        }
        x.solve();
        c.due("9: the first ones go", x.why(0) * 10L + x.why(1), 56);
        c.due("9: no more", x.why(2), 0);
        x.choose(-5, true);
        x.choose(2, true);
        x.solve();
        c.due("9: told again is the last one", x.why(0) * 10L + x.why(1), 42);
        x.choose(3, true);
        x.solve();
        c.due("9: in the order told", x.why(0) * 10L + x.why(1), 23);
        c.due("9: no more", x.why(2), 0);
        x.choose(-3, true);
        x.choose(-2, true);
        x.choose(5, true);
        x.solve();
        c.due("9: what is left of them", x.why(0) * 10L + x.why(1), 65);
        FeatureSolve y = rootWith(13);
        for (int f = 2; f <= 14; f++) {
            y.attribute(f, 0, 1);
            y.choose(f, true);
        }
        y.choose(1, true);
        y.attribute(0, 0, 12);
        y.solve();
        for (int f = 2; f <= 14; f++) {
            c.due("9: all but the root", y.why(f - 2), f);
        }
        c.due("9: the root can go", y.why(13), 0);
    }

    private static void count(Check c) {
        FeatureSolve x = rootWith(2);
        c.due("10: count(-1)", x.count(-1), -2);
        c.due("10: count(smallest)", x.count(Long.MIN_VALUE), -2);
        c.due("10: count(0)", x.count(0), -1);
        c.due("10: count(7)", x.count(7), -1);
        c.due("10: count(8)", x.count(8), 4);
        c.due("10: count(largest)", x.count(Long.MAX_VALUE), 4);
        c.due("10: count(2^32)", x.count(1L << 32), 4);
        x.choose(2, true);
        c.due("10: choices are kept too", x.count(8), 2);
        x.choose(1, false);
        c.due("10: none", x.count(8), 0);
        FeatureSolve y = rootWith(13);
        c.due("10: count(16383)", y.count(16383), -1);
        c.due("10: count(16384)", y.count(16384), 8192);
    }

    private static void forces(Check c) {
        FeatureSolve x = rootWith(5);
        x.formula(0, 3, 2);
        x.formula(1, 3, 4);
        x.choose(5, true);
        c.due("11: the root", x.forces(3, 0), 1);
        c.due("11: one that is in all", x.forces(3, 1), 2);
        c.due("11: one that is in none", x.forces(3, 2), -4);
        c.due("11: one with a choice", x.forces(3, 3), 5);
        c.due("11: no more", x.forces(3, 4), 0);
        c.due("11: of the root", x.forces(1, 0), 5);
        c.due("11: no more of the root", x.forces(1, 1), 0);
        c.due("11: forces(3, -1)", x.forces(3, -1), 0);
        c.due("11: forces(3, SMALLEST)", x.forces(3, SMALLEST), 0);
        c.due("11: forces(3, LARGEST)", x.forces(3, LARGEST), 0);
        c.due("11: forces(0, 0)", x.forces(0, 0), -1);
        c.due("11: forces(7, 0)", x.forces(7, 0), -1);
        c.due("11: forces(-3, 0)", x.forces(-3, 0), -1);
        c.due("11: forces(LARGEST, -1)", x.forces(LARGEST, -1), -1);
        FeatureSolve y = rootWith(2);
        y.formula(2, 2, 3);
        c.due("11: neither of two is in all", y.forces(1, 0), 0);
        x.choose(6, false);
        c.due("11: a choice that it must not be", x.forces(3, 4), -6);
        c.due("11: this feature must not be", x.forces(6, 0), 0);
        x.choose(4, true);
        c.due("11: no variant", x.forces(3, 0), 0);
        c.due("11: as choices it changes nothing", x.count(64), 2);
    }

    private static void differ(Check c) {
        FeatureSolve x = new FeatureSolve();
        c.due("12: differ(1, 1) before any", x.differ(1, 1), -1);
        x.solve();
        x.feature(0, 0);
        x.feature(1, 1);
        x.feature(1, 1);
        x.solve();
        x.choose(2, false);
        x.solve();
        x.choose(2, true);
        x.choose(3, false);
        x.solve();
        c.due("12: none and all", x.differ(1, 2), 3);
        c.due("12: one less", x.differ(2, 3), 1);
        c.due("12: one for another", x.differ(3, 4), 2);
        c.due("12: the other way round", x.differ(4, 3), 2);
        c.due("12: with itself", x.differ(4, 4), 0);
        x.choose(1, false);
        x.solve();
        c.due("12: not found is no number", x.differ(5, 1), -1);
        c.due("12: differ(1, 5)", x.differ(1, 5), -1);
        c.due("12: differ(0, 1)", x.differ(0, 1), -1);
        c.due("12: differ(1, 0)", x.differ(1, 0), -1);
        c.due("12: differ(-1, 1)", x.differ(-1, 1), -1);
        c.due("12: differ(1, SMALLEST)", x.differ(1, SMALLEST), -1);
        c.due("12: differ(LARGEST, 1)", x.differ(LARGEST, 1), -1);
    }

    private static void level(Check c) {
        FeatureSolve x = new FeatureSolve();
        x.feature(0, 0);
        c.due("13: the root", x.level(0), 0);
        c.throwsAtLevel(x, 1);
        for (int f = 2; f <= 13; f++) {
            x.feature(f - 1, f % 3);
        }
        x.feature(3, 1);
        for (int i = 0; i < 13; i++) {
            c.due("13: level(" + i + ")", x.level(i), i);
        }
        c.due("13: level(13)", x.level(13), 3);
        c.throwsAtLevel(x, 14);
        c.throwsAtLevel(x, -1);
        c.throwsAtLevel(x, SMALLEST);
        c.throwsAtLevel(x, LARGEST);
    }
}
