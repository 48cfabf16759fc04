import java.io.IOException;
import java.lang.reflect.Method;
import java.lang.reflect.Modifier;
import java.nio.file.Files;
import java.nio.file.Path;
import java.util.List;
import java.util.regex.Matcher;
import java.util.regex.Pattern;
import java.util.stream.Stream;

/** README.md: the example answers what stands there, and every call and every test is named. */
public final class ReadmeTest {
    private static final Path README = Path.of("README.md");
    private static final Path TESTS = Path.of("src/test/java");
    private static final Pattern EXAMPLE = Pattern.compile("(?s)```java\n(.*?)```");
    private static final Pattern LINE = Pattern.compile("x\\.(\\w+\\([^)]*\\)); +// ([\\w-]+)(: .*)?");
    private static final String FIRST_LINE = "TreeVersions x = new TreeVersions();";

    private static int wrong = 0;

    private ReadmeTest() {
    }

    private static void due(String what, boolean holds) {
        if (!holds) {
            wrong++;
            System.out.println("README.md: " + what);
        }
    }

    public static void main(String[] args) throws IOException {
        String text = Files.readString(README);
        exampleAnswersAsItSays(text);
        everyCallIsNamed(text);
        everyTestIsNamed(text);
        System.out.println(wrong == 0 ? "ReadmeTest: all is as it says" : "ReadmeTest: " + wrong + " wrong");
        System.exit(wrong == 0 ? 0 : 1);
    }

    private static void exampleAnswersAsItSays(String text) {
        Matcher example = EXAMPLE.matcher(text);
        if (!example.find()) {
            due("there is an example", false);
            return;
        }
        List<String> lines = example.group(1).lines().toList();
        due("the example begins with " + FIRST_LINE, lines.get(0).equals(FIRST_LINE));
        TreeVersions x = new TreeVersions();
        Model model = new Model();
        for (String line : lines.subList(1, lines.size())) {
            Matcher told = LINE.matcher(line);
            if (!told.matches()) {
                due("a line of the example without an answer: " + line, false);
                continue;
            }
            Script.Step step = Script.stepsOf(told.group(1) + " = " + told.group(2)).get(0);
            long got = step.call().on(x);
            due(step.call() + " answered " + got + ", not " + told.group(2), got == step.due());
            due(step.call() + " is another one in the model", got == step.call().on(model));
        }
    }

    private static void everyCallIsNamed(String text) {
        for (Method method : TreeVersions.class.getDeclaredMethods()) {
            boolean isCall = Modifier.isPublic(method.getModifiers());
            due("does not name " + method.getName(), !isCall || text.contains("`" + method.getName() + "`"));
        }
    }

    private static void everyTestIsNamed(String text) throws IOException {
        try (Stream<Path> files = Files.list(TESTS)) {
            for (Path file : files.toList()) {
                String name = file.getFileName().toString().replace(".java", "");
                due("does not name " + name, !name.endsWith("Test") || text.contains("| `" + name + "` |"));
            }
        }
    }
}
