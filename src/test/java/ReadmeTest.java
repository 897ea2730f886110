import java.io.IOException;
import java.lang.reflect.Method;
import java.lang.reflect.Modifier;
import java.nio.file.Files;
import java.nio.file.Path;
import java.util.List;
import java.util.regex.MatchResult;
import java.util.regex.Matcher;
import java.util.regex.Pattern;
import java.util.stream.Stream;

/**
 * README.md's examples answer what it says behind them, and it names every call and every test. To
 * be run in the project's folder, where it finds README.md.
 */
public final class ReadmeTest {
    private static final Due DUE = new Due();
    private static final Pattern EXAMPLE = Pattern.compile("```java\n(.*?)```", Pattern.DOTALL);
    private static final Pattern CALL =
            Pattern.compile("coder\\.(\\w+)\\((.*?)\\); +// (true|false|-?\\d+)(:.*)?");
    private static final String MADE = "ResumableCoder coder = new ResumableCoder();";

    public static void main(String[] args) throws IOException {
        String readme = Files.readString(Path.of("README.md"));
        List<MatchResult> examples = EXAMPLE.matcher(readme).results().toList();
        DUE.yes("examples", !examples.isEmpty());
        for (MatchResult example : examples) {
            answersOf(example.group(1));
        }
        for (Method m : ResumableCoder.class.getDeclaredMethods()) {
            if (Modifier.isPublic(m.getModifiers())) {
                DUE.yes("names " + m.getName(), readme.contains("`" + m.getName() + "("));
            }
        }
        try (Stream<Path> tests = Files.list(Path.of("src/test/java"))) {
            for (Path test : tests.toList()) {
                String name = test.getFileName().toString().replace(".java", "");
                DUE.yes("names " + name, readme.contains("`" + name + "`"));
            }
        }
        DUE.end();
    }

    private static void answersOf(String example) {
        String[] lines = example.split("\n");
        DUE.same("first line", lines[0], MADE);
        Calls calls = new Calls();
        for (int i = 1; i < lines.length; i++) {
            Matcher call = CALL.matcher(lines[i]);
            boolean understood = call.matches();
            DUE.yes("a call with its answer: " + lines[i], understood);
            if (understood) {
                String want = call.group(3).replace("true", "1").replace("false", "0");
                DUE.same(lines[i], calls.make(asText(call.group(1), call.group(2))), want);
            }
        }
    }

    /** The call as Calls has it written. */
    private static String asText(String name, String arguments) {
        String yes = name.equals("open") ? "encode" : "end";
        String no = name.equals("open") ? "decode" : "go";
        String words = arguments.replace(",", "").replace("true", yes).replace("false", no);
        return (name + " " + words).strip();
    }
}
