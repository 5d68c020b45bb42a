import java.io.IOException;
import java.lang.reflect.Method;
import java.lang.reflect.Modifier;
import java.net.URL;
import java.net.URLClassLoader;
import java.nio.file.Files;
import java.nio.file.Path;
import java.util.ArrayList;
import java.util.List;
import java.util.regex.MatchResult;
import java.util.regex.Matcher;
import java.util.regex.Pattern;
import javax.tools.ToolProvider;

/** README.md: its examples compile, answer what it says behind their calls, and no method is left out. */
public final class ReadmeTest {
    private static final Pattern EXAMPLE = Pattern.compile("(?s)```java\n(.*?)```");
    /** A call that has what it answers behind it. */
    private static final Pattern ANSWERED = Pattern.compile("(?m)^(table\\..*);\\s*// (true|false|-?\\d+)\\b.*$");

    private final List<String> calls = new ArrayList<>();
    private final List<String> dues = new ArrayList<>();

    private ReadmeTest() {
    }

    /** A class whose method runs all examples, one behind the other, and hands out their answers. */
    private String program(String readme) {
        StringBuilder body = new StringBuilder();
        Matcher example = EXAMPLE.matcher(readme);
        while (example.find()) {
            body.append(ANSWERED.matcher(example.group(1)).replaceAll(this::kept));
        }
        return "public final class Examples {\npublic static void make(java.util.List<String> answers) {\n" + body + "}\n}\n";
    }

    private String kept(MatchResult call) {
        calls.add(call.group(1));
        dues.add(call.group(2));
        return Matcher.quoteReplacement("answers.add(\"\" + " + call.group(1) + ");");
    }

    private void examples(String readme) throws IOException, ReflectiveOperationException {
        Path directory = Files.createTempDirectory("readme");
        Path source = directory.resolve("Examples.java");
        Path compiled = directory.resolve("Examples.class");
        try {
            Files.writeString(source, program(readme));
            int failed = ToolProvider.getSystemJavaCompiler().run(null, null, null, "-encoding", "UTF-8", "-cp",
                System.getProperty("java.class.path"), "-d", directory.toString(), source.toString());
            Check.due("what javac says of the examples", failed, 0);
            if (failed == 0) {
                compare(answers(directory));
            }
        } finally {
            Files.deleteIfExists(compiled);
            Files.deleteIfExists(source);
            Files.deleteIfExists(directory);
        }
    }

    private static List<String> answers(Path directory) throws IOException, ReflectiveOperationException {
        List<String> answers = new ArrayList<>();
        URL[] places = {directory.toUri().toURL()};
        try (URLClassLoader loader = new URLClassLoader(places, ReadmeTest.class.getClassLoader())) {
            loader.loadClass("Examples").getDeclaredMethod("make", List.class).invoke(null, answers);
        }
        return answers;
    }

    private void compare(List<String> answers) {
        Check.due("README has calls with answers", answers.size() > 10, true);
        for (int i = 0; i < answers.size(); i++) {
            Check.due("README: " + calls.get(i), answers.get(i), dues.get(i));
        }
    }

    private static void names(String readme) {
        for (Method method : StepperTable.class.getDeclaredMethods()) {
            if (Modifier.isPublic(method.getModifiers())) {
                Check.due("README names " + method.getName(), readme.contains("`" + method.getName() + "`"), true);
            }
        }
    }

    public static void main(String[] args) throws IOException, ReflectiveOperationException {
        String readme = Files.readString(Path.of("README.md"));
        new ReadmeTest().examples(readme);
        names(readme);
        Check.end("ReadmeTest");
    }
}
