import java.io.IOException;
import java.nio.file.Files;
import java.nio.file.Path;
import java.util.List;

/** What README.md says of the class: its example, and a row in its tables for each method. */
public final class ReadmeTest {
    private static final Path README = Path.of("README.md");
    private static final String[] CALLS = {"all(z)", "zero(z)", "keep(z, i, j, c)", "pass(z)",
        "back(z)", "set(z, clock, number)", "free(z, clock)", "follow(z, i, j)", "meet(y, z)",
        "hull(y, z)", "copy(y, z)", "empty(z)", "widest(z, i, j)", "has(z, a, b, c)", "size(z)",
        "next(z, after)", "within(y, z)", "touch(y, z)"};
    // The example's lines as they are run below, so that neither changes without the other.
    private static final String[] LINES = {"ClockZones x = new ClockZones();", "x.zero(0);",
        "x.pass(0);", "x.keep(0, 1, 0, 5);", "x.set(0, 2, 0);", "int widest = x.widest(0, 1, 2);",
        "int first = x.next(0, -1);", "int second = x.next(0, first);"};

    public static void main(String[] args) throws IOException {
        List<String> lines = Files.readAllLines(README);
        Check.test("every method has a row", () -> rows(lines));
        Check.test("the example is the one run here", () -> exampleLines(lines));
        Check.test("the example answers as it says", ReadmeTest::example);
        Check.test("how to run the tests", () ->
                Check.same(".ci/run on a line", lines.contains("    .ci/run"), true));
        Check.end();
    }

    private static void rows(List<String> lines) {
        for (String call : CALLS) {
            String row = "| `" + call + "` |";
            long found = lines.stream().filter(line -> line.startsWith(row)).count();
            Check.due("rows of " + call, found, 1);
        }
        Check.due("methods", CALLS.length, Methods.NAMES.length);
    }

    private static void exampleLines(List<String> lines) {
        int at = lines.indexOf("```java") + 1;
        for (int k = 0; k < LINES.length; k++) {
            String code = lines.get(at + k).replaceAll(" *//.*", "");
            Check.same("line " + k + " of the example", code, LINES[k]);
        }
        Check.same("its end", lines.get(at + LINES.length), "```");
    }

    private static void example() {
        ClockZones x = new ClockZones();
        Check.due("size(0) at first", x.size(0), 2197);
        Check.due("zero", x.zero(0), 0);
        Check.due("size(0) after zero", x.size(0), 1);
        Check.due("pass", x.pass(0), 1);
        Check.due("size(0) after pass", x.size(0), 13);
        Check.due("keep", x.keep(0, 1, 0, 5), 1);
        Check.due("size(0) after keep", x.size(0), 6);
        Check.due("set", x.set(0, 2, 0), 1);
        Check.due("widest", x.widest(0, 1, 2), 5);
        Check.due("first", x.next(0, -1), 0);
        Check.due("second", x.next(0, 0), 170);
    }
}
