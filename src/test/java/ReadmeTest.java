import java.io.IOException;
import java.lang.reflect.Method;
import java.lang.reflect.Modifier;
import java.nio.file.Files;
import java.nio.file.Path;
import java.util.ArrayList;
import java.util.List;

/** What README.md tells of the calls is so: its example, call by call, and its table. */
public final class ReadmeTest {
    private final Check check = new Check("readme");
    private final List<String> example = new ArrayList<>();
    private final List<String> table = new ArrayList<>();
    private int next;

    private ReadmeTest(List<String> lines) {
        boolean inExample = false;
        for (String line : lines) {
            inExample = line.equals("```java") || inExample && !line.equals("```");
            if (inExample && line.contains("//")) {
                example.add(line);
            }
            if (line.startsWith("| `")) {
                table.add(line);
            }
        }
    }

    public static void main(String[] args) throws IOException {
        ReadmeTest test = new ReadmeTest(Files.readAllLines(Path.of("README.md")));
        test.example();
        test.table();
        test.check.end();
    }

    /** The example's next line makes this call and tells this answer as the first word behind it. */
    private void told(String call, Object answer) {
        String line = next < example.size() ? example.get(next) : "// no line";
        next++;
        String made = line.substring(0, line.indexOf("//")).trim();
        String behind = line.substring(line.indexOf("//") + 2).trim();
        check.due("example's line " + next, made.replaceFirst("^.*car[.]", ""), call + ";");
        check.due("example's " + call, String.valueOf(answer), behind.split("[ ,:]")[0]);
    }

    private void example() {
        FeatureSolve car = new FeatureSolve();
        told("feature(0, 0)", car.feature(0, 0));
        told("feature(root, 0)", car.feature(1, 0));
        told("feature(motor, 2)", car.feature(2, 2));
        told("feature(motor, 2)", car.feature(2, 2));
        told("feature(root, 1)", car.feature(1, 1));
        told("group(motor, 1, 1)", car.group(2, 1, 1));
        told("formula(1, electric, hook)", car.formula(1, 4, 5));
        told("count(32)", car.count(32));
        told("choose(electric, true)", car.choose(4, true));
        told("solve()", car.solve());
        told("chosen(hook)", car.chosen(5));
        told("forces(electric, 2)", car.forces(4, 2));
        told("forces(electric, 3)", car.forces(4, 3));
        told("forces(electric, 4)", car.forces(4, 4));
        told("choose(hook, true)", car.choose(5, true));
        told("solve()", car.solve());
        told("why(0)", car.why(0));
        told("why(1)", car.why(1));
        told("why(2)", car.why(2));
        told("choose(-electric, false)", car.choose(-4, false));
        told("solve()", car.solve());
        told("chosen(petrol)", car.chosen(3));
        told("differ(1, 2)", car.differ(1, 2));
        told("attribute(petrol, 0, 700)", car.attribute(3, 0, 700));
        told("attribute(hook, 0, 300)", car.attribute(5, 0, 300));
        told("attribute(0, 0, 999)", car.attribute(0, 0, 999));
        told("count(32)", car.count(32));
        told("choose(-hook, false)", car.choose(-5, false));
        told("count(32)", car.count(32));
        told("level(3)", car.level(3));
        check.due("lines of the example", example.size(), next);
    }

    private void table() {
        int calls = 0;
        for (Method call : FeatureSolve.class.getDeclaredMethods()) {
            if (Modifier.isPublic(call.getModifiers())) {
                calls++;
                check.due("rows of " + call.getName(), rowsOf(call.getName()), 1);
            }
        }
        check.due("rows of the table", table.size(), calls);
    }

    private int rowsOf(String call) {
        int rows = 0;
        for (String row : table) {
            rows += row.startsWith("| `" + call + "(") ? 1 : 0;
        }
        return rows;
    }
}
