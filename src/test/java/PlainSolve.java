import java.util.ArrayList;
import java.util.List;

/**
 * The document read a second time, as slowly and plainly as it stands there: each set of features
 * is tried in the order of the first. The tests hold FeatureSolve against it.
 */
final class PlainSolve {
    private final List<int[]> features = new ArrayList<>();
    private final List<int[]> formulas = new ArrayList<>();
    private final List<Integer> choices = new ArrayList<>();
    private final int[][] groups = new int[15][];
    private final int[][] attributes = new int[15][4];
    private final Integer[] limits = new Integer[4];
    private final List<boolean[]> found = new ArrayList<>();
    private final List<Integer> reason = new ArrayList<>();
    private boolean[] last;

    private boolean known(int feature) {
        return feature > 0 && feature <= features.size();
    }

    private boolean knownSigned(int feature) {
        return known(feature) || feature != Integer.MIN_VALUE && known(-feature);
    }

    int feature(int parent, int kind) {
        if (features.isEmpty() ? parent != 0 : !known(parent)) {
            return -1;
        }
        if (kind != 0 && kind != 1 && kind != 2) {
            return -2;
        }
        if (features.size() == 14) {
            return -4;
        }
        features.add(new int[] {parent, kind});
        return features.size();
    }

    int group(int feature, int least, int most) {
        if (!known(feature)) {
            return -1;
        }
        if (!(0 <= least && least <= most && most <= 14)) {
            return -2;
        }
        groups[feature] = new int[] {least, most};
        int grouped = 0;
        for (int[] f : features) {
            grouped += f[0] == feature && f[1] == 2 ? 1 : 0;
        }
        return grouped;
    }

    int formula(int op, int a, int b) {
        if (!knownSigned(a) || !knownSigned(b)) {
            return -1;
        }
        if (op < 0 || op > 3) {
            return -2;
        }
        if (formulas.size() == 40) {
            return -4;
        }
        if (op == 0 && a == b || op == 1 && a == -b || op == 2 && a == -b || op == 3 && a == b) {
            return 0;
        }
        formulas.add(new int[] {op, a, b});
        return formulas.size();
    }

    int attribute(int feature, int what, int v) {
        if (feature != 0 && !known(feature)) {
            return -1;
        }
        long reach = feature == 0 ? 10000 : 1000;
        if (what < 0 || what > 3 || Math.abs((long) v) > reach) {
            return -2;
        }
        if (feature == 0) {
            limits[what] = v;
        } else {
            attributes[feature][what] = v;
        }
        return 1;
    }

    int choose(int feature, boolean on) {
        if (!knownSigned(feature)) {
            return -1;
        }
        choices.remove((Integer) feature);
        choices.remove((Integer) (-feature));
        if (feature > 0) {
            choices.add(on ? feature : -feature);
        }
        return choices.size();
    }

    int solve() {
        List<boolean[]> all = variants(choices);
        reason.clear();
        last = null;
        if (!all.isEmpty()) {
            last = all.get(0);
            if (found.size() < 200) {
                found.add(last);
            }
            return 1;
        }
        reason.addAll(choices);
        for (Integer choice : choices) {
            List<Integer> without = new ArrayList<>(reason);
            without.remove(choice);
            if (variants(without).isEmpty()) {
                reason.remove(choice);
            }
        }
        return 0;
    }

    boolean chosen(int feature) {
        return last != null && feature >= 0 && feature < last.length && last[feature];
    }

    int why(int i) {
        return i >= 0 && i < reason.size() ? reason.get(i) : 0;
    }

    long count(long steps) {
        if (steps < 0) {
            return -2;
        }
        return (1 << features.size()) > steps ? -1 : variants(choices).size();
    }

    int forces(int feature, int i) {
        if (!known(feature)) {
            return -1;
        }
        List<Integer> with = new ArrayList<>(choices);
        with.add(feature);
        List<boolean[]> all = variants(with);
        List<Integer> forced = new ArrayList<>();
        for (int f = 1; f <= features.size() && !all.isEmpty(); f++) {
            int in = 0;
            for (boolean[] variant : all) {
                in += variant[f] ? 1 : 0;
            }
            if (f != feature && (in == 0 || in == all.size())) {
                forced.add(in == 0 ? -f : f);
            }
        }
        return i >= 0 && i < forced.size() ? forced.get(i) : 0;
    }

    int differ(int variant, int other) {
        if (variant < 1 || other < 1 || variant > found.size() || other > found.size()) {
            return -1;
        }
        int different = 0;
        for (int f = 1; f <= 14; f++) {
            different += found.get(variant - 1)[f] != found.get(other - 1)[f] ? 1 : 0;
        }
        return different;
    }

    /** -99 where the call throws. */
    int level(int i) {
        if (i < 0 || i >= features.size()) {
            return -99;
        }
        int above = 0;
        for (int f = features.get(i)[0]; f != 0; f = features.get(f - 1)[0]) {
            above++;
        }
        return above;
    }

    private List<boolean[]> variants(List<Integer> asked) {
        List<boolean[]> all = new ArrayList<>();
        int n = features.size();
        for (int left = 0; left < 1 << n; left++) {
            boolean[] in = new boolean[15];
            for (int f = 1; f <= n; f++) {
                in[f] = (left >> (n - f) & 1) == 0;
            }
            if (keepsTree(in) && keepsGroups(in) && keepsFormulas(in) && keepsLimits(in) && keeps(in, asked)) {
                all.add(in);
            }
        }
        return all;
    }

    private boolean keepsTree(boolean[] in) {
        for (int f = 1; f <= features.size(); f++) {
            int[] told = features.get(f - 1);
            boolean parentIn = in[told[0]];
            if (f == 1 ? !in[1] : in[f] && !parentIn || told[1] == 0 && parentIn && !in[f]) {
                return false;
            }
        }
        return true;
    }

    private boolean keepsGroups(boolean[] in) {
        for (int p = 1; p <= features.size(); p++) {
            int members = 0;
            for (int f = 2; f <= features.size(); f++) {
                int[] told = features.get(f - 1);
                members += told[0] == p && told[1] == 2 && in[f] ? 1 : 0;
            }
            if (in[p] && groups[p] != null && (members < groups[p][0] || members > groups[p][1])) {
                return false;
            }
        }
        return true;
    }

    private boolean keepsFormulas(boolean[] in) {
        for (int[] told : formulas) {
            boolean a = in[Math.abs(told[1])] == told[1] > 0;
            boolean b = in[Math.abs(told[2])] == told[2] > 0;
            boolean[] holds = {!(a && !b), !(a && b), a || b, a && b || !a && !b};
            if (!holds[told[0]]) {
                return false;
            }
        }
        return true;
    }

    private boolean keepsLimits(boolean[] in) {
        for (int what = 0; what < 4; what++) {
            long sum = 0;
            for (int f = 1; f <= features.size(); f++) {
                sum += in[f] ? attributes[f][what] : 0;
            }
            if (limits[what] != null && sum > limits[what]) {
                return false;
            }
        }
        return true;
    }

    private static boolean keeps(boolean[] in, List<Integer> asked) {
        for (int choice : asked) {
            if (in[Math.abs(choice)] != choice > 0) {
                return false;
            }
        }
        return true;
    }
}
