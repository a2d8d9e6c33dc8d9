import java.io.IOException;
import java.lang.reflect.Method;
import java.lang.reflect.Modifier;
import java.nio.file.Files;
import java.nio.file.Path;
import java.util.List;
import java.util.regex.Matcher;
import java.util.regex.Pattern;
import java.util.stream.Stream;

/** What README.md says of the use of the class holds: its examples, its list of calls, and its list of tests. */
public final class ReadmeTest {
    private static final Pattern CALL = Pattern.compile("bench\\.(\\w+\\(.*\\)); +// (-?\\d+)(:.*)?");
    private static final String NEW = "GlazierBench bench = new GlazierBench();";

    private static int wrong = 0;
    private static int examples = 0;

    public static void main(String[] args) throws IOException {
        String text = Files.readString(Path.of("README.md"));
        checkExamples(text.lines().toList());
        checkCalls(text);
        checkTests(text);
        System.out.println(wrong == 0 ? "README.md holds, " + examples + " answers" : wrong + " faults of README.md");
        System.exit(wrong == 0 ? 0 : 1);
    }

    private static void check(boolean holds, String fault) {
        if (!holds) {
            wrong++;
            System.out.println(fault);
        }
    }

    private static void checkExamples(List<String> lines) {
        GlazierBench bench = null;
        for (String line : lines) {
            Matcher call = CALL.matcher(line);
            if (line.equals(NEW)) {
                bench = new GlazierBench();
            } else if (call.matches()) {
                examples++;
                long got = Act.of(call.group(1)).on(bench);
                check(got == Long.parseLong(call.group(2)), line + " (answered " + got + ")");
            } else {
                check(!line.startsWith("bench."), "an example without its answer: " + line);
            }
        }
        check(examples > 0, "there are no examples");
    }

    private static void checkCalls(String text) {
        for (Method method : GlazierBench.class.getDeclaredMethods()) {
            if (Modifier.isPublic(method.getModifiers())) {
                String parameters = String.join(", ", Stream.generate(() -> "\\w+").limit(method.getParameterCount()).toList());
                Pattern row = Pattern.compile("\\| `" + method.getName() + "\\(" + parameters + "\\)` \\|");
                check(row.matcher(text).find(), "the list of calls lacks " + method.getName());
            }
        }
    }

    private static void checkTests(String text) throws IOException {
        try (Stream<Path> files = Files.list(Path.of("src/test/java"))) {
            for (Path file : files.filter(f -> f.toString().endsWith("Test.java")).toList()) {
                check(text.contains("`" + file + "`"), "the list of tests lacks " + file);
            }
        }
        Matcher named = Pattern.compile("`(src/[\\w/]+\\.java)`").matcher(text);
        while (named.find()) {
            check(Files.exists(Path.of(named.group(1))), named.group(1) + " isn't there");
        }
    }
}
