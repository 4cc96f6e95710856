import java.io.IOException;
import java.lang.reflect.Method;
import java.lang.reflect.Modifier;
import java.net.URL;
import java.net.URLClassLoader;
import java.nio.file.Files;
import java.nio.file.Path;
import java.util.ArrayList;
import java.util.List;
import java.util.Set;
import java.util.TreeSet;
import java.util.concurrent.Callable;
import java.util.regex.Matcher;
import java.util.regex.Pattern;
import java.util.stream.Stream;
import javax.tools.ToolProvider;

/** README.md has every call with what it throws, and every test; its example answers what it says. */
public final class ReadmeTest {
    private static final Path TESTS = Path.of("src/test/java");
    private static final Pattern EXAMPLE = Pattern.compile("```java\n(.*?)```", Pattern.DOTALL);
    /** A call in the example with an answer behind it. */
    private static final Pattern ANSWERED = Pattern.compile("(tree\\..*);\\s*// (-?\\d+|true|false): .*");
    private static final Pattern CALL_ROW = Pattern.compile("\\| `(\\w+)\\((.*)\\)` \\|.*\\|(.*)\\|");
    private static final Pattern TEST_ROW = Pattern.compile("\\| `(\\w+Test)` \\|.*");
    private static final Pattern EXCEPTION = Pattern.compile("`(\\w+Exception)`: ");

    public static void main(String[] args) throws Exception {
        String readme = Files.readString(Path.of("README.md"));
        everyCallHasARow(readme);
        everyTestHasARow(readme);
        theNumberOfCallsIsSaid(readme);
        theExampleAnswersWhatItSays(readme);
        Check.end();
    }

    private static void everyCallHasARow(String readme) {
        Set<String> got = new TreeSet<>();
        Matcher row = CALL_ROW.matcher(readme);
        while (row.find()) {
            int parameters = row.group(2).isEmpty() ? 0 : row.group(2).split(", ").length;
            got.add(row.group(1) + " takes " + parameters + ", throws " + all(EXCEPTION, row.group(3)));
        }
        Set<String> want = new TreeSet<>();
        for (Method method : TurnTree.class.getDeclaredMethods()) {
            if (Modifier.isPublic(method.getModifiers())) {
                List<String> thrown = new ArrayList<>();
                for (Class<?> e : method.getExceptionTypes()) {
                    thrown.add(e.getSimpleName());
                }
                want.add(method.getName() + " takes " + method.getParameterCount() + ", throws " + thrown);
            }
        }
        Check.due("calls in README.md", String.join("\n", got), String.join("\n", want));
    }

    private static void everyTestHasARow(String readme) throws IOException {
        Set<String> want = new TreeSet<>();
        try (Stream<Path> files = Files.list(TESTS)) {
            files.map(file -> file.getFileName().toString()).filter(name -> name.endsWith("Test.java"))
                    .forEach(name -> want.add(name.replace(".java", "")));
        }
        Set<String> got = new TreeSet<>(all(TEST_ROW, readme));
        Check.due("tests in README.md", got.toString(), want.toString());
    }

    private static void theNumberOfCallsIsSaid(String readme) {
        Check.due("512 calls are said", readme.replace('\n', ' ').contains("at most 512 calls"), true);
    }

    private static List<String> all(Pattern pattern, String text) {
        List<String> found = new ArrayList<>();
        Matcher matcher = pattern.matcher(text);
        while (matcher.find()) {
            found.add(matcher.group(1));
        }
        return found;
    }

    private static void theExampleAnswersWhatItSays(String readme) throws Exception {
        List<String> examples = all(EXAMPLE, readme);
        Check.due("examples", examples.size(), 1);
        StringBuilder code = new StringBuilder();
        List<String> said = new ArrayList<>();
        for (String line : examples.get(0).split("\n")) {
            Matcher answered = ANSWERED.matcher(line);
            if (answered.matches()) {
                code.append("answers.add(").append(answered.group(1)).append(");\n");
                said.add(answered.group(1) + " is " + answered.group(2));
            } else {
                code.append(line).append('\n');
            }
        }
        List<?> answers = run(code.toString());
        Check.due("answers in the example", said.size() > 5 && answers.size() == said.size(), true);
        for (int i = 0; i < Math.min(said.size(), answers.size()); i++) {
            String call = said.get(i).replaceFirst(" is [^ ]*$", "");
            Check.due("in the example", call + " is " + answers.get(i), said.get(i));
        }
    }

    /** What the lines put into the list "answers". */
    private static List<?> run(String lines) throws Exception {
        Path folder = Files.createTempDirectory("readme");
        Path source = folder.resolve("Example.java");
        Files.writeString(source, "import java.util.*;\n"
                + "public class Example implements java.util.concurrent.Callable<List<Object>> {\n"
                + "public List<Object> call() {\nList<Object> answers = new ArrayList<>();\n"
                + lines + "return answers;\n}\n}\n");
        int status = ToolProvider.getSystemJavaCompiler().run(null, null, null,
                "-cp", System.getProperty("java.class.path"), "-d", folder.toString(), source.toString());
        Check.due("compiling the example", status, 0);
        if (status != 0) {
            return List.of();
        }
        try (URLClassLoader loader = new URLClassLoader(new URL[] {folder.toUri().toURL()})) {
            Object made = loader.loadClass("Example").getConstructor().newInstance();
            return (List<?>) ((Callable<?>) made).call();
        } finally {
            Files.delete(source);
            Files.delete(folder.resolve("Example.class"));
            Files.delete(folder);
        }
    }
}
