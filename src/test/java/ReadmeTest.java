import java.io.IOException;
import java.nio.file.Files;
import java.nio.file.Path;
import java.util.List;

/** That README.md tells the truth: its example answers what it says, and it names every call and every test. */
public final class ReadmeTest {
    public static void main(String[] args) throws IOException {
        String readme = Files.readString(Path.of("README.md"));
        example(readme);
        namesEveryCall(readme);
        namesEveryTest(readme);
        Due.end();
    }

    private static void example(String readme) {
        MetricLogMonitor m = new MetricLogMonitor();
        int asked = m.atom(0, 0, 1);
        int answered = m.atom(1, 1, 0);
        int soon = m.until(0, 3, asked, answered);
        Due.due("watch()", m.watch(), true);
        Due.due("gather(0, 1, 2)", m.gather(0, 1, 2), true);
        Due.due("place(10)", m.place(10), 0);
        Due.due("gather(1, 2, 1)", m.gather(1, 2, 1), true);
        Due.due("place(12)", m.place(12), 1);
        Due.due("progress(soon)", m.progress(soon), 0);
        Due.due("place(14)", m.place(14), 2);
        Due.due("progress(soon) then", m.progress(soon), 1);
        Due.due("satisfied(soon, 0)", m.satisfied(soon, 0), Sets.where(x -> x[0] == 1 && x[1] == 2));
        Due.due("rows(soon, 0)", m.rows(soon, 0), 1);
        for (String line : List.of("m.atom(0, 0, 1);", "m.atom(1, 1, 0);", "m.until(0, 3, asked, answered);",
                "m.watch();", "m.gather(0, 1, 2);", "m.place(10);", "m.gather(1, 2, 1);", "m.place(12);",
                "m.place(14);", "m.progress(soon);", "m.satisfied(soon, 0);", "m.rows(soon, 0);", "m.stop(false);")) {
            Due.due("the example has " + line, readme.contains(line), true);
        }
    }

    private static void namesEveryCall(String readme) {
        for (String call : List.of("atom(relation, a, b)", "compare(less, a, b)", "not(f)", "join(both, f, g)",
                "exists(v, f)", "previous(lo, hi, f)", "since(lo, hi, f, g)", "until(lo, hi, f, g)", "free(f)",
                "ranged(f)", "bounded(f)", "watch()", "gather(relation, x, y)", "place(time)", "stop(all)",
                "progress(f)", "satisfied(f, i)", "rows(f, i)")) {
            Due.due("README.md names " + call, readme.contains("`" + call + "`"), true);
        }
    }

    private static void namesEveryTest(String readme) throws IOException {
        try (var files = Files.list(Path.of("src/test/java"))) {
            for (Path file : files.toList()) {
                String name = file.getFileName().toString().replace(".java", "");
                if (name.endsWith("Test")) {
                    Due.due("README.md names " + name, readme.contains("`" + name + "`"), true);
                }
            }
        }
        Due.due("README.md tells how to run them", readme.contains(".ci/run"), true);
    }
}
