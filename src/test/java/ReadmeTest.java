import java.io.IOException;
import java.nio.file.Files;
import java.nio.file.Path;
import java.util.ArrayList;
import java.util.List;

/** The example of README.md: its lines are those that are called here, and each answers what stands behind it. */
public final class ReadmeTest {
    private static final Checks checks = new Checks();
    private static final List<String> called = new ArrayList<>();

    public static void main(String[] args) throws IOException {
        List<String> lines = exampleLines();
        Entitled desk = new Entitled();
        called.add("Entitled desk = new Entitled();");
        int suite = desk.entitle(3, 5, 2, 'd', 1, -1);
        called.add("int suite = desk.entitle(3, 5, 2, 'd', 1, -1);");
        int first = desk.install(0, 5, 2, 0, 7, 4, 0);
        called.add("int first = desk.install(0, 5, 2, 0, 7, 4, 0);");
        int second = desk.install(1, 5, 2, 1, 7, 4, 0);
        called.add("int second = desk.install(1, 5, 2, 1, 7, 4, 0);");
        answer(lines, "desk.covered();", desk.covered());
        answer(lines, "desk.entitlementOf(first);", desk.entitlementOf(first));
        checks.due("entitlementOf(first) is suite", desk.entitlementOf(first), suite);
        answer(lines, "desk.reason(second);", "'" + desk.reason(second) + "'");
        answer(lines, "desk.trueUp();", desk.trueUp());
        answer(lines, "desk.coverage();", desk.coverage() + "f");
        checks.due("the example's calls", callsOf(lines), called);
        checks.end();
    }

    private static void answer(List<String> lines, String call, Object got) {
        called.add(call);
        String told = "no such line";
        for (String line : lines) {
            if (line.startsWith(call)) {
                told = line.replaceFirst(".*// ", "").split("[,:]")[0];
            }
        }
        checks.due("README.md on " + call, told, String.valueOf(got));
    }

    private static List<String> exampleLines() throws IOException {
        List<String> lines = new ArrayList<>();
        boolean inside = false;
        for (String line : Files.readAllLines(Path.of("README.md"))) {
            if (line.startsWith("```")) {
                inside = line.equals("```java");
            } else if (inside) {
                lines.add(line);
            }
        }
        return lines;
    }

    private static List<String> callsOf(List<String> lines) {
        List<String> calls = new ArrayList<>();
        for (String line : lines) {
            calls.add(line.replaceFirst(" *//.*", ""));
        }
        return calls;
    }
}
