import java.io.IOException;
import java.nio.file.Files;
import java.nio.file.Path;
import java.util.regex.Pattern;
import java.util.stream.Stream;

/**
 * What of LANGUAGE.md can be read from the program's text: words and signs that its rules leave
 * out, and lengths that they set. To be run in the project's folder, where it finds the program.
 */
public final class LanguageTest {
    private static final Due DUE = new Due();
    private static final String PROGRAM = "src/main/java/ResumableCoder.java";
    private static final String LEFT_OUT = "\\b(package|throws?|try|catch|finally|synchronized|assert"
            + "|volatile|transient|native|protected|var|Object|\\w*Exception|Thread|Random|hashCode"
            + "|toString|\\w+Exact)\\b";
    private static final int MOST_CLASSES = 12;
    private static final int MOST_LINES = 60;

    public static void main(String[] args) throws IOException {
        String code = Files.readString(Path.of(PROGRAM)).replaceAll("(?s)/\\*.*?\\*/", "");
        String bare = code.replaceAll("\"(\\\\.|[^\"\\\\])*\"", "\"\"")
                .replaceAll("'(\\\\.|[^'\\\\])'", "' '");
        DUE.same("one file", filesOfTheProgram(), 1);
        none("words that are left out", LEFT_OUT, bare);
        none("rule 2: lambdas and method references", "->|::", bare);
        none("rule 4: imports but Arrays", "\\bimport (?!java\\.util\\.Arrays;)", bare);
        none("rule 4: of System but arraycopy", "\\bSystem\\.(?!arraycopy)", bare);
        none("rule 4: signs but 1 to 127", "[^\\x01-\\x7f]", code);
        none("rule 5: static fields not final", "\\bstatic (?!final )[\\w\\[\\]]+ \\w+( =|;)", bare);
        none("rule 11: eight parameters", "\\((\\w+ \\w+, ){7}", bare);
        DUE.yes("rule 11: classes", found("\\bclass \\w+", bare) <= MOST_CLASSES);
        DUE.yes("rule 11: the longest method", longestMethod(code) <= MOST_LINES);
        DUE.end();
    }

    private static long filesOfTheProgram() throws IOException {
        try (Stream<Path> all = Files.walk(Path.of("src/main"))) {
            return all.filter(Files::isRegularFile).count();
        }
    }

    private static void none(String what, String pattern, String text) {
        DUE.same(what, found(pattern, text), 0);
    }

    private static long found(String pattern, String text) {
        return Pattern.compile(pattern).matcher(text).results().count();
    }

    /** Methods of the outer class stand four columns in, those of the classes inside it eight. */
    private static int longestMethod(String code) {
        int most = 0;
        int length = 0;
        String end = null;
        for (String line : code.split("\n")) {
            if (line.matches(" {4}( {4})?(\\w+ )+\\w+\\(.*\\) \\{")) {
                end = line.replaceAll("\\S.*", "}");
                length = 0;
            }
            length++;
            if (line.equals(end)) {
                most = Math.max(most, length);
                end = null;
            }
        }
        return most == 0 ? Integer.MAX_VALUE : most;
    }
}
