import java.io.IOException;
import java.nio.file.Files;
import java.nio.file.Path;
import java.util.ArrayList;
import java.util.List;
import java.util.regex.Matcher;
import java.util.regex.Pattern;

/** The example in README.md answers what stands there; run from the root of the project. */
public final class ReadmeTest {
    private static final Path README = Path.of("README.md");
    private static final Pattern EXAMPLE = Pattern.compile("(?s)```java\n(.*?)```");
    private static final Pattern CALL = Pattern.compile("table\\.(.*\\)); +// (\\w+)(:.*)?");

    private static final List<String> answers = new ArrayList<>();

    public static void main(String[] args) throws IOException {
        makeTheCalls(new SkipRows());
        Check.due("the example", String.join("\n", exampleOf(Files.readString(README))), String.join("\n", answers));
        Check.end("ReadmeTest");
    }

    private static void makeTheCalls(SkipRows table) {
        note("put(3, 2)", () -> table.put(3, 2));
        note("put(3, 7)", () -> table.put(3, 7));
        note("set(2, 1)", () -> table.set(2, 1));
        note("ifTaken(1, 24, 1)", () -> table.ifTaken(1, 24, 1));
        note("take(1, 24)", () -> table.take(1, 24));
        note("row(1, 7)", () -> table.row(1, 7));
        note("row(0, 5)", () -> table.row(0, 5));
        note("pass(5)", () -> table.pass(5));
        note("row(0, 6)", () -> table.row(0, 6));
        note("take(1, 1)", () -> table.take(1, 1));
        note("done(1, 0)", () -> table.done(1, 0));
        note("done(1, 0)", () -> table.done(1, 0));
        note("sweep()", () -> table.sweep());
        note("undo()", () -> table.undo());
        note("append('k')", () -> table.append('k'));
        note("append('4')", () -> table.append('4'));
        note("append('*')", () -> table.append('*'));
        note("putAll()", () -> table.putAll());
        note("append('9')", () -> table.append('9'));
        note("firstError()", () -> table.firstError());
        note("putAll()", () -> table.putAll());
    }

    private static void note(String call, Check.Call made) {
        String answer;
        try {
            answer = Long.toString(made.run());
        } catch (RuntimeException e) {
            answer = e.getClass().getSimpleName();
        }
        answers.add(call + " " + answer);
    }

    /** The calls of the example and the answers behind them; a line that is no call stands as it is. */
    private static List<String> exampleOf(String readme) {
        List<String> calls = new ArrayList<>();
        Matcher example = EXAMPLE.matcher(readme);
        Check.isTrue("README.md has an example", example.find());
        for (String line : example.group(1).split("\n")) {
            Matcher call = CALL.matcher(line);
            if (call.matches()) {
                calls.add(call.group(1) + " " + call.group(2));
            } else if (!line.equals("SkipRows table = new SkipRows();")) {
                calls.add(line);
            }
        }
        return calls;
    }
}
