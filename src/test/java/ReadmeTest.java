import java.io.IOException;
import java.lang.reflect.Method;
import java.net.URL;
import java.net.URLClassLoader;
import java.nio.file.Files;
import java.nio.file.Path;
import java.util.ArrayList;
import java.util.List;
import java.util.regex.Matcher;
import java.util.regex.Pattern;
import java.util.stream.Stream;
import javax.tools.JavaCompiler;
import javax.tools.ToolProvider;

/** That README.md holds: its calls, compiled and run, answer as it says; it names every call and every test. */
final class ReadmeTest {
    private static final Path README = Path.of("README.md");
    private static final Path TESTS = Path.of("src/test/java");

    private ReadmeTest() {
    }

    public static void main(String[] args) throws IOException, ReflectiveOperationException {
        String page = Files.readString(README);
        List<String> blocks = found(page, "(?s)```java\n(.*?)```");
        Check.due("blocks of Java", blocks.size(), 2);
        if (blocks.size() == 2) {
            callsAnswer(blocks.get(0), blocks.get(1));
        }
        namesEveryCall(page);
        namesEveryTest(page);
        Check.finish("ReadmeTest");
    }

    private static List<String> found(String text, String pattern) {
        List<String> all = new ArrayList<>();
        Matcher m = Pattern.compile(pattern).matcher(text);
        while (m.find()) {
            all.add(m.group(1));
        }
        return all;
    }

    /** Each statement of the second block with a comment is a call; the comment begins with its answer. */
    private static void callsAnswer(String methods, String calls) throws IOException, ReflectiveOperationException {
        Pattern call = Pattern.compile("(?ms)^((?:x\\.|tell\\().*?\\)); *// (-?\\d+)\\b[^\n]*$");
        List<String> asked = new ArrayList<>();
        List<Long> wanted = new ArrayList<>();
        StringBuilder body = new StringBuilder();
        Matcher m = call.matcher(calls);
        while (m.find()) {
            asked.add(m.group(1));
            wanted.add(Long.parseLong(m.group(2)));
            m.appendReplacement(body, Matcher.quoteReplacement("answers.add((long) " + m.group(1) + ");"));
        }
        m.appendTail(body);
        Check.due("comments in the calls of README.md", found(calls, "(//)").size(), asked.size());
        String source = "public class ReadmeCalls {\n" + methods
                + "public static void run(java.util.List<Long> answers) {\n" + body + "}\n}\n";
        List<Long> answers = answersOf(source);
        Check.due("calls that README.md makes", answers.size(), asked.size());
        for (int i = 0; i < answers.size() && i < asked.size(); i++) {
            Check.due("README.md: " + asked.get(i), answers.get(i), wanted.get(i));
        }
    }

    private static List<Long> answersOf(String source) throws IOException, ReflectiveOperationException {
        List<Long> answers = new ArrayList<>();
        JavaCompiler compiler = ToolProvider.getSystemJavaCompiler();
        Check.due("a compiler is here", compiler == null ? 0 : 1, 1);
        if (compiler == null) {
            return answers;
        }
        Path directory = Files.createTempDirectory("readme");
        Path file = directory.resolve("ReadmeCalls.java");
        Files.writeString(file, source);
        String classes = System.getProperty("java.class.path");
        int code = compiler.run(null, null, null, "-cp", classes, "-d", directory.toString(), file.toString());
        Check.due("README.md's code compiles", code, 0);
        if (code == 0) {
            URL[] place = {directory.toUri().toURL()};
            try (URLClassLoader loader = new URLClassLoader(place, ReadmeTest.class.getClassLoader())) {
                loader.loadClass("ReadmeCalls").getMethod("run", List.class).invoke(null, answers);
            }
        }
        for (String name : new String[] {"ReadmeCalls.java", "ReadmeCalls.class"}) {
            Files.deleteIfExists(directory.resolve(name));
        }
        Files.delete(directory);
        return answers;
    }

    private static void namesEveryCall(String page) {
        List<String> table = found(page, "(?m)^\\| (`.*)\\|[^|]*\\|$");
        List<String> named = new ArrayList<>();
        for (String line : table) {
            named.addAll(found(line, "`(\\w+)`"));
        }
        int calls = 0;
        for (Method m : SilenceMatch.class.getMethods()) {
            if (m.getDeclaringClass() == SilenceMatch.class) {
                calls++;
                Check.due("README.md names " + m.getName(), named.contains(m.getName()) ? 1 : 0, 1);
            }
        }
        Check.due("calls that README.md names", named.size(), calls);
    }

    private static void namesEveryTest(String page) throws IOException {
        List<String> files = new ArrayList<>();
        try (Stream<Path> paths = Files.list(TESTS)) {
            paths.forEach(p -> files.add(p.getFileName().toString().replace(".java", "")));
        }
        for (String name : files) {
            Check.due("README.md names " + name, page.contains("`" + name + "`") ? 1 : 0, 1);
        }
        for (String name : found(page, "`(\\w+Test)`")) {
            Check.due("there is " + name, files.contains(name) ? 1 : 0, 1);
        }
    }
}
