/**
 * Long mixed runs, as many calls as an object is used for, each answer held against PlainSolve's;
 * the runs are always the same.
 */
public final class AgainstPlainTest {
    private static final int[] ODD = {
        0, -1, 15, 16, -15, 31, 32, 33, -33, 64, 201, 1001, 10001, Integer.MAX_VALUE, Integer.MIN_VALUE,
        Integer.MIN_VALUE + 1,
    };
    private final Check check;
    private final int most;
    private long seed;
    private FeatureSolve x;
    private PlainSolve plain;
    private int features;
    private int calls;
    private int seldom;
    /** How far the limits stand from what the attributes make together. */
    private int room;
    /** Of ten calls of choose() how many take one back. */
    private int back;

    private AgainstPlainTest(Check check, int run, int most) {
        this.check = check;
        this.most = most;
        this.seed = run * 7919L + 17;
    }

    public static void main(String[] args) {
        Check check = new Check("against the plain one");
        for (int run = 0; run < 1000 && check.wrong() == 0; run++) {
            int most = run % 20 == 0 ? 14 : 1 + run % 10;
            new AgainstPlainTest(check, run, most).run();
        }
        check.end();
    }

    private int below(int bound) {
        seed = seed * 6364136223846793005L + 1442695040888963407L;
        return (int) ((seed >>> 33) % bound);
    }

    /**
     * Most runs say what they have to say early or seldom, and take choices back often: else no
     * variant is left before much was asked.
     */
    private void run() {
        x = new FeatureSolve();
        plain = new PlainSolve();
        features = 0;
        int rare = 1 + below(6);
        seldom = 4 << below(7);
        room = below(3) * 20;
        back = 1 + below(6);
        for (calls = 0; calls < 512 && check.wrong() == 0; calls++) {
            if (features < most && below(rare + 1) == 0) {
                feature();
            } else if (below(seldom) == 0) {
                tell();
            } else if (below(3) == 0) {
                choose();
            } else {
                ask();
            }
        }
    }

    /** Mostly a feature that there is, of either sign if that is asked for. */
    private int some(boolean signed) {
        if (features == 0 || below(25) == 0) {
            return below(3) == 0 ? ODD[below(ODD.length)] : features + 1;
        }
        int feature = 1 + below(features);
        return signed && below(2) == 0 ? -feature : feature;
    }

    private int index(int bound) {
        return below(20) == 0 ? ODD[below(ODD.length)] : below(bound);
    }

    private void feature() {
        int parent = features == 0 ? below(8) / 7 : some(false);
        int kind = below(15) == 0 ? index(5) - 1 : below(3);
        int number = plain.feature(parent, kind);
        check.due("feature(" + parent + ", " + kind + ")", x.feature(parent, kind), number);
        features = Math.max(features, number);
    }

    private void tell() {
        int a = some(true);
        int b = some(true);
        switch (below(5)) {
            case 0:
                int least = below(4) / 2;
                int most = below(12) == 0 ? index(17) : least + below(3);
                check.due("group", x.group(Math.abs(a), least, most), plain.group(Math.abs(a), least, most));
                break;
            case 1:
                int op = below(12) == 0 ? index(7) - 1 : below(4);
                check.due("formula", x.formula(op, a, b), plain.formula(op, a, b));
                break;
            case 2:
                int what = below(15) == 0 ? index(6) - 1 : below(4);
                int v = below(15) == 0 ? ODD[below(ODD.length)] : below(21) - 10;
                check.due("attribute", x.attribute(Math.abs(a), what, v), plain.attribute(Math.abs(a), what, v));
                break;
            case 3:
                int which = below(4);
                int limit = below(30) - 5 + room;
                check.due("limit", x.attribute(0, which, limit), plain.attribute(0, which, limit));
                break;
            default:
                choose();
                break;
        }
    }

    private void choose() {
        int feature = some(false);
        if (below(10) < back) {
            feature = -feature;
        }
        boolean on = below(3) != 0;
        check.due("choose(" + feature + ", " + on + ")", x.choose(feature, on), plain.choose(feature, on));
    }

    private void ask() {
        int f = some(false);
        int i = index(6);
        switch (below(8)) {
            case 0:
            case 1:
                check.due("solve()", x.solve(), plain.solve());
                break;
            case 2:
                check.due("chosen(" + f + ")", x.chosen(f), plain.chosen(f));
                for (int g = 0; g <= features && calls < 511; g++) {
                    check.due("chosen(" + g + ")", x.chosen(g), plain.chosen(g));
                    calls++;
                }
                break;
            case 3:
                check.due("why(" + i + ")", x.why(i), plain.why(i));
                break;
            case 4:
                long steps = below(4) == 0 ? (1L << below(16)) - below(2) : 1L << (14 + below(49));
                steps = below(30) == 0 ? -steps : steps;
                check.due("count(" + steps + ")", x.count(steps), plain.count(steps));
                break;
            case 5:
                check.due("forces(" + f + ", " + i + ")", x.forces(f, i), plain.forces(f, i));
                break;
            case 6:
                int one = index(12);
                int two = index(12);
                check.due("differ(" + one + ", " + two + ")", x.differ(one, two), plain.differ(one, two));
                break;
            default:
                level(index(15));
                break;
        }
    }

    private void level(int i) {
        int due = plain.level(i);
        if (due == -99) {
            check.throwsAtLevel(x, i);
        } else {
            check.due("level(" + i + ")", x.level(i), due);
        }
    }
}
