import java.util.function.Supplier;
import java.util.function.ToLongFunction;

/**
 * All that an object tells of itself, as one text: two objects with the same text hold the same.
 * Asking changes the object, so a probe is its last use. What a call could spoil is asked before that
 * call is made here, else both objects would be spoiled alike.
 */
final class Probe {
    private final FeatureSolve x;
    private final StringBuilder text = new StringBuilder();
    private int features;

    private Probe(FeatureSolve x) {
        this.x = x;
    }

    static String of(FeatureSolve x) {
        Probe probe = new Probe(x);
        probe.lastSolve();
        probe.levels();
        probe.found();
        probe.add("count", x.count(Models.STEPS));
        probe.forces();
        probe.sums();
        probe.choices();
        probe.numbers();
        return probe.text.toString();
    }

    /** A call that is refused: it answers the number, and a new object on which it was made is as one without it. */
    static void refused(Check c, String call, Supplier<FeatureSolve> model, ToLongFunction<FeatureSolve> made, int due) {
        FeatureSolve x = model.get();
        c.due(call, made.applyAsLong(x), due);
        c.due(call + " changes nothing:", of(x), of(model.get()));
    }

    private void add(String what, long answer) {
        text.append(' ').append(what).append(' ').append(answer);
    }

    private void levels() {
        for (int i = 0; i < 15; i++) {
            try {
                add("level", x.level(i));
                features++;
            } catch (ArrayIndexOutOfBoundsException e) {
                add("no level", i);
                return;
            }
        }
    }

    private void lastSolve() {
        text.append(" chosen ").append(Models.digits(x, 14)).append(" why ").append(Models.why(x));
    }

    private void found() {
        int number = 1;
        while (x.differ(number, number) == 0) {
            add("differ", x.differ(number, 1));
            number++;
        }
    }

    private void forces() {
        for (int f = 1; f <= features; f++) {
            text.append(" forces ").append(f).append(": ").append(Models.forces(x, f));
        }
    }

    /** Which variants each limit leaves, so that attributes without a limit show too. */
    private void sums() {
        for (int what = 0; what < 4; what++) {
            for (int limit = -3; limit <= 5; limit++) {
                x.attribute(0, what, limit);
                add("sums", x.count(Models.STEPS));
            }
            x.attribute(0, what, 10000);
        }
    }

    /** With a sum that is too large by 1 as long as all choices stand, the why is all of them in order. */
    private void choices() {
        int must = 0;
        String forced = " " + Models.forces(x, 1) + " ";
        for (int f = 2; f <= features; f++) {
            boolean in = forced.contains(" " + f + " ");
            boolean out = forced.contains(" " + -f + " ");
            must += in ? 1 : 0;
            x.attribute(f, 3, in ? 1 : out ? -1 : 0);
        }
        x.attribute(1, 3, 0);
        x.attribute(0, 3, must - 1);
        add("solve", x.solve());
        lastSolve();
        for (int f = 1; f <= features; f++) {
            add("choices", x.choose(-f, true));
        }
    }

    private void numbers() {
        add("grouped", x.group(1, 0, 14));
        add("formula", x.formula(2, 1, 1));
        add("feature", x.feature(features == 0 ? 0 : 1, 1));
    }
}
