import java.io.ByteArrayOutputStream;
import java.io.IOException;
import java.io.PrintStream;
import java.lang.reflect.Method;
import java.lang.reflect.Modifier;
import java.net.URL;
import java.net.URLClassLoader;
import java.nio.file.Files;
import java.nio.file.Path;
import java.util.HashMap;
import java.util.Map;
import java.util.regex.Matcher;
import java.util.regex.Pattern;
import javax.tools.JavaCompiler;
import javax.tools.ToolProvider;

/** README.md says what is so: its program prints what it says, its texts are right, and every call has its row. */
public final class ReadmeTest {
    public static void main(String[] args) throws IOException, ReflectiveOperationException {
        String readme = Files.readString(Path.of(System.getProperty("readme", "README.md")));
        String doc = Files.readString(Path.of(System.getProperty("shared", "../shared"), "DOC.md"));
        Due.same("the program of README.md", printed(block(readme, "java", 0)), block(readme, "text", 0));
        everyCall(readme, doc);
        exampleText(block(readme, "text", 1));
        testsAreNamed(readme);
        Due.finish("ReadmeTest");
    }

    private static String block(String readme, String kind, int number) {
        Matcher m = Pattern.compile("```" + kind + "\n(.*?)```", Pattern.DOTALL).matcher(readme);
        for (int i = 0; i <= number; i++) {
            Due.due("block " + i + " of " + kind, m.find(), true);
        }
        return m.group(1);
    }

    private static String printed(String program) throws IOException, ReflectiveOperationException {
        Path work = Files.createTempDirectory("readme");
        Path file = work.resolve("Example.java");
        Files.writeString(file, program);
        JavaCompiler javac = ToolProvider.getSystemJavaCompiler();
        int failed = javac.run(null, null, null, "-cp", System.getProperty("java.class.path"), "-d", work.toString(), file.toString());
        Due.due("the program of README.md compiles", failed, 0);
        ByteArrayOutputStream out = new ByteArrayOutputStream();
        PrintStream before = System.out;
        try (URLClassLoader loader = new URLClassLoader(new URL[] {work.toUri().toURL()})) {
            System.setOut(new PrintStream(out, true));
            loader.loadClass("Example").getMethod("main", String[].class).invoke(null, (Object) new String[0]);
        } finally {
            System.setOut(before);
            Files.deleteIfExists(work.resolve("Example.class"));
            Files.deleteIfExists(file);
            Files.deleteIfExists(work);
        }
        return out.toString().replace("\r", "");
    }

    /** Each call has a row with its promise's number and as many arguments as it takes. */
    private static void everyCall(String readme, String doc) {
        Map<String, String> promises = new HashMap<>();
        Matcher m = Pattern.compile("^## Promise (\\d+): (\\w+)$", Pattern.MULTILINE).matcher(doc);
        while (m.find()) {
            promises.put(m.group(2), m.group(1));
        }
        for (Method method : SiltHarbour.class.getDeclaredMethods()) {
            if (Modifier.isPublic(method.getModifiers())) {
                String row = "^\\| " + promises.get(method.getName()) + " \\| `" + method.getName() + "\\(([^)]*)\\)` \\| .+ \\|$";
                Matcher found = Pattern.compile(row, Pattern.MULTILINE).matcher(readme);
                boolean there = found.find();
                Due.due("a row of " + method.getName(), there, true);
                if (there) {
                    int arguments = found.group(1).isEmpty() ? 0 : found.group(1).split(", ").length;
                    Due.due("arguments of " + method.getName(), arguments, method.getParameterCount());
                }
            }
        }
    }

    private static void exampleText(String text) {
        SiltHarbour x = new SiltHarbour();
        Due.due("the text of README.md", Due.act(x, 0, text.trim().replace('\n', ' ')), 9);
        Due.due("its fault", x.fault(), SiltHarbour.NONE);
        Due.due("a text with a line break is wrong there", Due.faultOf(text), text.indexOf('\n'));
        SiltHarbour y = new SiltHarbour();
        y.feed(0x746f6e20, 0x32000000, 0, 0, 0);
        Due.thrown("a tape that is not cut", IllegalArgumentException.class, () -> y.act(0));
        Due.due("it is wrong behind the text", y.fault(), 5);
    }

    private static void testsAreNamed(String readme) throws IOException {
        Path tests = Path.of(System.getProperty("source", "src/main/java/SiltHarbour.java")).toAbsolutePath()
            .getParent().resolveSibling("../test/java").normalize();
        try (var files = Files.list(tests)) {
            files.map(f -> f.getFileName().toString()).filter(f -> f.endsWith("Test.java")).sorted()
                .forEach(f -> Due.due("README.md tells of " + f, readme.contains("`" + f.replace(".java", "") + "`"), true));
        }
    }
}
