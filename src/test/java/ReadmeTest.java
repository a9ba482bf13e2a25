import java.io.IOException;
import java.lang.reflect.Method;
import java.nio.file.Files;
import java.nio.file.Path;
import java.util.List;

/** README.md: its example has the answers that it tells, and its table has every call. */
public final class ReadmeTest {
    private static List<String> lines;

    public static void main(String[] args) throws IOException {
        lines = Files.readAllLines(Path.of("README.md"));
        example();
        tableHasEveryCall();
        Check.due("how to run the tests", lines.contains(".ci/run"), true);
        Check.done();
    }

    private static void example() {
        GrowDecoder x = new GrowDecoder();
        int wall = x.point(true);
        int a = x.point(false);
        int b = x.point(false);
        told("int wall = x.point(true);", "a boundary");
        told("int a = x.point(false);", "inner points");
        told("int b = x.point(false);", "");
        told("x.edge(wall, a, 2);", "edge " + x.edge(wall, a, 2));
        told("x.edge(a, b, 3);", "edge " + x.edge(a, b, 3));
        Check.due("fire", x.fire(b, true), true);
        told("x.fire(b, true);", "");
        told("int rounds = x.grow();", Check.grow(x) + ";");
        told("long fix = x.grown(1);", x.grown(1) + ": the edges 0 and 1");
        told("int turn = x.believe(40);", x.believe(40) + ": settled behind the second turn");
        told("long guess = x.guess();", x.guess() + "");
        told("long answer = x.answer();", x.answer() + ";");
    }

    /** The example has this line, and what stands behind its slashes begins so. */
    private static void told(String code, String answer) {
        boolean found = false;
        for (String line : lines) {
            if (line.startsWith(code)) {
                int at = line.indexOf("// ");
                found |= (at < 0 ? "" : line.substring(at + 3)).startsWith(answer);
            }
        }
        Check.due("README.md tells " + code + " // " + answer, found, true);
    }

    private static void tableHasEveryCall() {
        for (Method m : GrowDecoder.class.getDeclaredMethods()) {
            String row = "| `" + m.getName() + "(";
            boolean found = lines.stream().anyMatch(line -> line.startsWith(row));
            Check.due("README.md's table has " + m.getName(), found, true);
        }
    }
}
