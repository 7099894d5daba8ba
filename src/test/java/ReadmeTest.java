import java.io.IOException;
import java.lang.reflect.Method;
import java.nio.file.Files;
import java.nio.file.Path;
import java.util.List;
import java.util.regex.Matcher;
import java.util.regex.Pattern;
import java.util.stream.Stream;

/** What README.md says is what the class and .ci/run do. */
public final class ReadmeTest {
    private static final String TESTS = "src/test/java";

    private ReadmeTest() { }

    private static List<String> found(String pattern, String text) {
        return Pattern.compile(pattern, Pattern.DOTALL).matcher(text).results().map(r -> r.group(1)).toList();
    }

    /** A line of an example: a call, and what it answers behind it. */
    private static void line(WashLine x, String line) throws ReflectiveOperationException {
        Matcher call = Pattern.compile("x\\.(\\w+)\\((.*?)\\); +// (-?\\d+)(: .*)?").matcher(line);
        Due.holds("the form of: " + line, call.matches());
        if (!call.matches()) {
            return;
        }
        String[] numbers = call.group(2).isEmpty() ? new String[0] : call.group(2).split(", ");
        Class<?>[] types = new Class<?>[numbers.length];
        Object[] given = new Object[numbers.length];
        for (int k = 0; k < numbers.length; k++) {
            types[k] = int.class;
            given[k] = (int) (long) Long.decode(numbers[k]);
        }
        Method method = WashLine.class.getMethod(call.group(1), types);
        long got = ((Number) method.invoke(x, given)).longValue();
        Due.is(line, got, Long.parseLong(call.group(3)));
    }

    private static void examples(String readme) throws ReflectiveOperationException {
        Due.part("the examples");
        List<String> blocks = found("```java\n(.*?)```", readme);
        Due.holds("there are some", blocks.size() > 0);
        for (String block : blocks) {
            String[] lines = block.split("\n");
            Due.holds("an object is made first", lines[0].equals("WashLine x = new WashLine();"));
            WashLine x = new WashLine();
            for (int k = 1; k < lines.length; k++) {
                line(x, lines[k]);
            }
        }
    }

    private static void calls(String readme, String doc) {
        Due.part("the calls");
        List<String> face = found("public ((?:int |long )?\\w+\\([^)]*\\));", doc);
        Due.is("how many", face.size(), 42);
        for (String one : face) {
            String bare = one.replaceFirst("^(int|long) ", "").replace("int ", "");
            Due.holds("`" + bare + "` is there", readme.contains("`" + bare + "`"));
        }
    }

    private static void tests(Path root, String readme) throws IOException {
        Due.part("the tests");
        List<String> names;
        try (Stream<Path> files = Files.list(root.resolve(TESTS))) {
            names = files.map(f -> f.getFileName().toString().replace(".java", "")).filter(n -> n.endsWith("Test")).toList();
        }
        for (String name : names) {
            Due.holds(name + " is there", readme.contains("`" + name + "`"));
        }
        for (String name : found("`(\\w+Test)`", readme)) {
            Due.holds(name + " is a test", names.contains(name));
        }
        Due.holds(".ci/run can be run", Files.isExecutable(root.resolve(".ci/run")));
    }

    /** Each file or folder that the page names is there. */
    private static void places(Path root, String readme) {
        Due.part("the places");
        for (String place : found("`([.\\w]+/[./\\w]+)`", readme)) {
            Due.holds(place + " is there", Files.exists(root.resolve(place)));
        }
    }

    public static void main(String[] args) throws IOException, ReflectiveOperationException {
        Path root = Path.of(args[0]);
        String readme = Files.readString(root.resolve("README.md"));
        examples(readme);
        calls(readme, Files.readString(root.resolve("../shared/DOC.md")));
        tests(root, readme);
        places(root, readme);
        Due.finish("ReadmeTest");
    }
}
