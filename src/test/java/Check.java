import java.util.function.IntUnaryOperator;

/** Counts the answers that are not the ones that are due, and tells each. */
final class Check {
    private final String about;
    private int wrong;

    Check(String about) {
        this.about = about;
    }

    void due(String call, long got, long want) {
        if (got != want) {
            tell(call, String.valueOf(got), String.valueOf(want));
        }
    }

    void due(String call, boolean got, boolean want) {
        due(call, got ? 1L : 0L, want ? 1L : 0L);
    }

    void due(String call, String got, String want) {
        if (!got.equals(want)) {
            tell(call, got, want);
        }
    }

    /** One call for each of some inputs, all of which have the same answer. */
    void dueOfAll(String call, int[] inputs, IntUnaryOperator made, long want) {
        for (int input : inputs) {
            due(call + " of " + input, made.applyAsInt(input), want);
        }
    }

    private void tell(String call, String got, String want) {
        wrong++;
        System.out.println(about + ": " + call + " answered " + got + ", due is " + want);
    }

    void throwsAtLevel(FeatureSolve x, int i) {
        try {
            int level = x.level(i);
            due("level(" + i + ") throws, but it", level, Long.MIN_VALUE);
        } catch (RuntimeException e) {
            due("level(" + i + ") throws the named exception",
                e.getClass() == ArrayIndexOutOfBoundsException.class, true);
        }
    }

    int wrong() {
        return wrong;
    }

    void end() {
        System.out.println(about + ": " + (wrong == 0 ? "all answers are as due" : wrong + " wrong"));
        if (wrong != 0) {
            System.exit(1);
        }
    }
}
