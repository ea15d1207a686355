import java.io.IOException;
import java.nio.file.Files;
import java.nio.file.Path;
import java.util.ArrayList;
import java.util.List;

/** README.md names the whole face, and its example answers what it says there. */
public final class ReadmeTest {
    private static final String[] FACE = {
        "EventLineDesk()", "boolean begin(int kind)", "boolean add(int character)",
        "boolean text(int character)", "int end()", "boolean back(int mark)", "int mark()",
        "long take()", "int count(int what)"};

    private static int wrong = 0;

    /** .ci/run starts the tests in the project's directory. */
    public static void main(String[] args) throws IOException {
        String readme = Files.readString(Path.of("README.md"));
        for (String call : FACE) {
            if (!readme.contains("| `" + call + "`")) {
                tell("no row of the table has " + call);
            }
        }
        example(readme);
        if (wrong != 0) {
            System.exit(1);
        }
    }

    private static void example(String readme) {
        List<String> told = new ArrayList<>();
        for (String line : readme.split("\n")) {
            if (line.startsWith("desk.")) {
                told.add(line.replaceFirst("; +// ", " = ").replaceFirst(":.*", ""));
            }
        }
        List<String> seen = answers(new EventLineDesk());
        if (!seen.equals(told)) {
            tell("the example says " + told + ", the class answers " + seen);
        }
    }

    private static List<String> answers(EventLineDesk desk) {
        return List.of(
                "desk.begin(0) = " + desk.begin(0),
                "desk.add('a') = " + desk.add('a'),
                "desk.end() = " + desk.end(),
                "desk.mark() = " + desk.mark(),
                "desk.text('h') = " + desk.text('h'),
                "desk.text('\\n') = " + desk.text('\n'),
                "desk.count(3) = " + desk.count(3),
                "desk.mark() = " + desk.mark(),
                "desk.back(3) = " + desk.back(3),
                "desk.take() = " + String.format("0x%016X", desk.take()),
                "desk.take() = " + String.format("0x%016X", desk.take()));
    }

    private static void tell(String what) {
        wrong++;
        System.out.println("README.md: " + what);
    }
}
