import java.io.IOException;
import java.nio.file.Files;
import java.nio.file.Path;
import java.util.Set;
import java.util.TreeSet;
import java.util.regex.Matcher;
import java.util.regex.Pattern;
import java.util.stream.Stream;

/** The calls in README.md answer what stands beside them. It is run where README.md lies, as .ci/run does. */
public final class ReadmeTest {
    private static final Path README = Path.of("README.md");
    private static final String NEW_STORE = "CapStore x = new CapStore();";
    private static final Pattern CALL = Pattern.compile("x\\.(\\w+)\\(([-0-9, ]*)\\); +// (-?\\d+|true|false)(: .*)?");
    private static final Set<String> SHOWN = new TreeSet<>();

    private ReadmeTest() {
    }

    public static void main(String[] args) throws IOException {
        String text = Files.readString(README);
        Due.test("README.md", "calls whose answers are the document's", () -> examples(text));
        Due.test("README.md", "how to use the class", ReadmeTest::everyCallIsShown);
        Due.end();
    }

    private static void examples(String text) {
        Matcher blocks = Pattern.compile("(?s)```java\n(.*?)```").matcher(text);
        while (blocks.find()) {
            example(blocks.group(1));
        }
    }

    private static void example(String block) {
        CapStore x = null;
        for (String line : block.split("\n")) {
            Matcher call = CALL.matcher(line);
            if (line.equals(NEW_STORE)) {
                x = new CapStore();
            } else if (x != null && call.matches()) {
                Due.is("README.md: " + line, answer(x, call), due(call.group(3)));
            } else {
                Due.is("README.md: whether '" + line + "' is a call with its answer", line.isEmpty(), true);
            }
        }
    }

    private static long answer(CapStore x, Matcher line) {
        Call call = Call.named(line.group(1));
        SHOWN.add(call.name);
        return call.on(x, Stream.of(line.group(2).split(", *")).filter(n -> !n.isEmpty()).mapToInt(Integer::parseInt).toArray());
    }

    private static long due(String answer) {
        return answer.equals("true") ? 1 : answer.equals("false") ? 0 : Long.parseLong(answer);
    }

    private static void everyCallIsShown() {
        for (Call call : Call.ALL) {
            Due.is("whether README.md shows " + call.name, SHOWN.contains(call.name), true);
        }
    }
}
