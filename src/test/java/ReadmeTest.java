import java.io.IOException;
import java.lang.reflect.Method;
import java.lang.reflect.Modifier;
import java.net.URL;
import java.net.URLClassLoader;
import java.nio.file.Files;
import java.nio.file.Path;
import java.util.ArrayList;
import java.util.List;
import java.util.Set;
import java.util.TreeSet;
import java.util.concurrent.Callable;
import java.util.regex.Matcher;
import java.util.regex.Pattern;
import java.util.stream.Stream;
import javax.tools.ToolProvider;

/** What README.md says is true of the class and of the tests; it is run from the project's folder. */
public final class ReadmeTest {
    private static final Path PAGE = Path.of("README.md");
    private static final Path TESTS = Path.of("src", "test", "java");
    private static final Pattern EXAMPLE = Pattern.compile("(?s)```java\n(.*?)```");
    private static final Pattern ANSWERED = Pattern.compile("(?:int (\\w+) = )?(\\w+\\.\\w+\\(.*\\)); *// (-?\\w+)(?:: .*)?");
    private static final Pattern NAME_OF_TESTS = Pattern.compile("`(\\w+(?:Test|Sentences))`");

    private ReadmeTest() {
    }

    public static void main(String[] args) throws Exception {
        String page = Files.readString(PAGE);
        Matcher examples = EXAMPLE.matcher(page);
        int found = 0;
        while (examples.find()) {
            found++;
            compareAnswers(examples.group(1).split("\n"));
        }
        Check.begin("README.md");
        Check.same("examples", found, 1);
        compareCalls(page);
        Check.same("names of tests", named(page).toString(), present().toString());
        Check.end();
    }

    private static void compareAnswers(String[] lines) throws Exception {
        List<String> calls = new ArrayList<>();
        List<String> due = new ArrayList<>();
        StringBuilder body = new StringBuilder();
        for (String line : lines) {
            Matcher answered = ANSWERED.matcher(line);
            if (answered.matches()) {
                calls.add(answered.group(2));
                due.add(answered.group(3));
                body.append(asking(answered.group(1), answered.group(2)));
            } else {
                Check.holds("an answer stands behind its call: " + line, !line.contains("//"));
                body.append(line).append('\n');
            }
        }
        List<?> got = answersOf(body.toString());
        Check.holds("the example has answers", !due.isEmpty());
        Check.same("how many answers", got.size(), due.size());
        for (int i = 0; i < due.size() && i < got.size(); i++) {
            Check.same(calls.get(i), String.valueOf(got.get(i)), due.get(i));
        }
    }

    private static String asking(String name, String call) {
        if (name != null) {
            return "int " + name + " = " + call + ";\nanswers.add(\"\" + " + name + ");\n";
        }
        return "try {\nanswers.add(\"\" + " + call + ");\n} catch (RuntimeException e) {\n"
            + "answers.add(e.getClass().getSimpleName());\n}\n";
    }

    /** The example becomes a class of its own, as it would be in a user's hands. */
    private static List<?> answersOf(String body) throws Exception {
        Path folder = Files.createTempDirectory("readme");
        Path source = folder.resolve("Example.java");
        Path compiled = folder.resolve("Example.class");
        Files.writeString(source, "import java.util.ArrayList;\nimport java.util.List;\n"
            + "public final class Example implements java.util.concurrent.Callable<List<String>> {\n"
            + "public List<String> call() {\nList<String> answers = new ArrayList<>();\n" + body + "return answers;\n}\n}\n");
        try {
            String path = System.getProperty("java.class.path");
            int refused = ToolProvider.getSystemJavaCompiler().run(null, null, null, "-cp", path, "-d", folder.toString(), source.toString());
            Check.same("the example is compiled", refused, 0);
            return refused == 0 ? run(folder) : List.of();
        } finally {
            Files.deleteIfExists(source);
            Files.deleteIfExists(compiled);
            Files.deleteIfExists(folder);
        }
    }

    private static List<?> run(Path folder) throws Exception {
        try (URLClassLoader loader = new URLClassLoader(new URL[] {folder.toUri().toURL()})) {
            Object example = loader.loadClass("Example").getConstructor().newInstance();
            return (List<?>) ((Callable<?>) example).call();
        }
    }

    private static void compareCalls(String page) {
        for (Method method : GroveMerge.class.getDeclaredMethods()) {
            if (Modifier.isPublic(method.getModifiers())) {
                Check.holds(method.getName() + " is named", page.contains("`" + method.getName() + "`"));
            }
        }
    }

    private static Set<String> named(String page) {
        Set<String> names = new TreeSet<>();
        Matcher matcher = NAME_OF_TESTS.matcher(page);
        while (matcher.find()) {
            names.add(matcher.group(1));
        }
        return names;
    }

    private static Set<String> present() throws IOException {
        Set<String> names = new TreeSet<>();
        try (Stream<Path> files = Files.list(TESTS)) {
            files.map(file -> file.getFileName().toString().replace(".java", ""))
                .filter(name -> name.endsWith("Test") || name.matches("\\w+Sentences"))
                .forEach(names::add);
        }
        return names;
    }
}
