import java.io.IOException;
import java.nio.file.Files;
import java.nio.file.Path;
import java.util.List;
import java.util.Set;
import java.util.regex.MatchResult;
import java.util.regex.Pattern;

/** The rules of LANGUAGE.md that the program's text shows. It is run where README.md lies, as .ci/run does. */
public final class LanguageTest {
    private static final Path PROGRAM = Path.of("src/main/java/CapStore.java");
    private static final Set<String> RULED_OUT = Set.of(
        "throw", "throws", "try", "catch", "finally", "synchronized", "assert", "volatile", "transient", "native", "package", "import");
    private static final int LONGEST_METHOD = 60;

    private LanguageTest() {
    }

    public static void main(String[] args) throws IOException {
        String text = Files.readString(PROGRAM);
        String code = text.replaceAll("(?s)/\\*.*?\\*/", "").replaceAll("//[^\n]*", "");
        Due.test("LANGUAGE.md, rule 3", "Texts hold characters 0 to 255 alone", () -> plainText(text));
        Due.test("LANGUAGE.md, rules 4 and 6", "No throw, try, catch, synchronized, assert", () -> words(code));
        Due.test("LANGUAGE.md, rule 2", "no lambda, no method reference", () -> signs(code));
        Due.test("LANGUAGE.md, rules 4 and 13", "only what stands here", () -> library(code));
        Due.test("LANGUAGE.md, rule 5", "no static initialiser block", () -> none(code, "\\bstatic\\s*\\{"));
        Due.test("LANGUAGE.md, rule 11", "Methods stay short (some sixty lines)", () -> lengths(code));
        Due.test("LANGUAGE.md, rule 12", "What a run makes is counted", () -> madeOnce(code));
        Due.end();
    }

    private static List<String> found(String code, String what) {
        return Pattern.compile(what).matcher(code).results().map(MatchResult::group).toList();
    }

    private static void none(String code, String what) {
        Due.is("how often the program has " + what, found(code, what).size(), 0);
    }

    private static void plainText(String text) {
        Due.is("characters above 255", text.chars().filter(c -> c > 255).count(), 0);
    }

    private static void words(String code) {
        for (String word : RULED_OUT) {
            none(code, "\\b" + word + "\\b");
        }
    }

    private static void signs(String code) {
        none(code, "->");
        none(code, "::");
    }

    /** Names of classes begin with a capital and go on in small letters; constants have none of these. */
    private static void library(String code) {
        for (String name : found(code, "\\b[A-Z]\\w*[a-z]\\w*(\\.\\w+)?")) {
            Due.is("whether the program may use " + name, Set.of("CapStore", "System.arraycopy").contains(name), true);
        }
    }

    private static void lengths(String code) {
        int begin = 0;
        int lines = 0;
        for (String line : code.split("\n")) {
            lines++;
            if (line.matches("    (public|private) .*\\{")) {
                begin = lines;
            }
            if (line.equals("    }")) {
                Due.is("whether the method at line " + begin + " without comments is short", lines - begin < LONGEST_METHOD, true);
            }
        }
    }

    /** Rows that calls would make add up over all calls of a run; these three are made with the store. */
    private static void madeOnce(String code) {
        String constructor = found(code, "(?s)public CapStore\\(\\) \\{.*?\n    \\}").get(0);
        Due.is("how often the constructor makes a row", found(constructor, "\\bnew\\b").size(), 3);
        Due.is("how often the program makes anything", found(code, "\\bnew\\b").size(), 3);
    }
}
