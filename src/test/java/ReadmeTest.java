import java.io.IOException;
import java.lang.reflect.Method;
import java.lang.reflect.Modifier;
import java.net.URL;
import java.net.URLClassLoader;
import java.nio.file.Files;
import java.nio.file.Path;
import java.util.ArrayList;
import java.util.Comparator;
import java.util.List;
import java.util.regex.Matcher;
import java.util.regex.Pattern;
import java.util.stream.Stream;
import javax.tools.ToolProvider;

/** README.md shows each call at work, and the examples answer what stands behind them. */
final class ReadmeTest extends Checks {
    private static final Pattern BLOCK = Pattern.compile("(?s)```java\n(.*?)```");
    private static final Pattern ANSWERED = Pattern.compile("(?m)^(x\\.\\w+\\(.*\\)); +// (-?\\d+): .*$");

    static void run(Path readme) throws Exception {
        String text = Files.readString(readme);
        examples(text);
        eachCall(text);
        howToTest(text);
    }

    private static void examples(String text) throws Exception {
        test("README.md: the examples answer what stands behind them");
        StringBuilder members = new StringBuilder();
        StringBuilder statements = new StringBuilder();
        Matcher block = BLOCK.matcher(text);
        while (block.find()) {
            (block.group(1).startsWith("static ") ? members : statements).append(block.group(1));
        }
        List<String> calls = new ArrayList<>();
        List<Long> dues = new ArrayList<>();
        String noted = ANSWERED.matcher(statements).replaceAll(found -> {
            calls.add(found.group(1));
            dues.add(Long.valueOf(found.group(2)));
            return "answers.add((long) " + Matcher.quoteReplacement(found.group(1)) + ");";
        });
        so("each call that x is asked has its answer behind it", !Pattern.compile("(?m)^x\\.").matcher(noted).find());
        List<?> answers = answersOf("import java.util.*;\npublic final class Examples {\n" + members
            + "public static List<Long> answers() {\nList<Long> answers = new ArrayList<>();\n" + noted + "return answers;\n}\n}\n");
        due("how many answered", answers.size(), calls.size());
        for (int i = 0; i < Math.min(answers.size(), calls.size()); i++) {
            due(calls.get(i), (Long) answers.get(i), dues.get(i));
        }
    }

    private static List<?> answersOf(String source) throws Exception {
        Path place = Files.createTempDirectory("readme");
        try {
            Path file = Files.writeString(place.resolve("Examples.java"), source);
            String here = System.getProperty("java.class.path");
            int faults = ToolProvider.getSystemJavaCompiler().run(null, null, null, "-d", place.toString(), "-cp", here,
                file.toString());
            due("compiling the examples", faults, 0);
            return faults == 0 ? start(place) : List.of();
        } finally {
            remove(place);
        }
    }

    private static List<?> start(Path place) throws Exception {
        try (URLClassLoader loader = new URLClassLoader(new URL[] {place.toUri().toURL()}, ReadmeTest.class.getClassLoader())) {
            return (List<?>) loader.loadClass("Examples").getMethod("answers").invoke(null);
        }
    }

    private static void remove(Path place) throws IOException {
        List<Path> all;
        try (Stream<Path> found = Files.walk(place)) {
            all = found.sorted(Comparator.reverseOrder()).toList();
        }
        for (Path one : all) {
            Files.delete(one);
        }
    }

    private static void eachCall(String text) {
        test("README.md: each call stands in an example");
        for (Method method : PointsForAll.class.getDeclaredMethods()) {
            if (Modifier.isPublic(method.getModifiers())) {
                so(method.getName(), Pattern.compile("\\bx\\." + method.getName() + "\\(").matcher(text).find());
            }
        }
        so("the constructor", text.contains("new PointsForAll()"));
        for (String name : new String[] {"BAD", "NOT", "FULL", "BIG", "STATE", "VOID"}) {
            so(name, text.contains("`" + name + "`"));
        }
    }

    private static void howToTest(String text) {
        test("README.md: how the tests are run");
        so("by .ci/run", text.contains("bash .ci/run"));
        so("with this closing line", text.contains("N passed, N failed"));
    }
}
