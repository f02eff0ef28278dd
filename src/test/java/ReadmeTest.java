import java.io.IOException;
import java.lang.reflect.Method;
import java.lang.reflect.Modifier;
import java.net.URL;
import java.net.URLClassLoader;
import java.nio.file.Files;
import java.nio.file.Path;
import java.util.ArrayList;
import java.util.Comparator;
import java.util.List;
import java.util.regex.Matcher;
import java.util.regex.Pattern;
import java.util.stream.Collectors;
import java.util.stream.Stream;
import javax.tools.ToolProvider;

/** The example of README.md is compiled and run, and must answer what it says; all calls and tests are told there. */
public final class ReadmeTest {
    /** A line of the example: type and name, the call, the answer, a colon, and what it is. */
    private static final Pattern LINE = Pattern.compile("(\\w+) (\\w+) = (glass\\..*;) +// ([^ :]+): .+");

    public static void main(String[] args) throws Exception {
        String readme = Files.readString(Path.of("README.md"));
        exampleAnswersWhatItSays(readme);
        allCallsAreTold(readme);
        allTestsAreTold(readme);
        Due.end();
    }

    private static void exampleAnswersWhatItSays(String readme) throws Exception {
        String example = readme.substring(readme.indexOf("```java") + 7);
        example = example.substring(0, example.indexOf("```"));
        List<String> names = new ArrayList<>();
        List<String> want = new ArrayList<>();
        for (String line : example.strip().lines().skip(1).collect(Collectors.toList())) {
            Matcher m = LINE.matcher(line);
            Due.same("a line with its answer: " + line, m.matches(), true);
            if (m.matches()) {
                names.add(m.group(2));
                want.add(m.group(4));
            }
        }
        Object[] got = run(example, names);
        for (int i = 0; i < got.length; i++) {
            Due.same("README.md: " + names.get(i), String.valueOf(got[i]), want.get(i));
        }
    }

    private static Object[] run(String example, List<String> names) throws Exception {
        Path folder = Files.createTempDirectory("readme");
        try {
            Path file = folder.resolve("Example.java");
            Files.writeString(file, "public class Example { public static Object[] run() {" + example
                + "return new Object[] {" + String.join(", ", names) + "}; } }");
            int failed = ToolProvider.getSystemJavaCompiler().run(null, null, null, "--release", "17", "-proc:none",
                "-cp", System.getProperty("java.class.path"), "-d", folder.toString(), file.toString());
            Due.same("the compiler refuses the example", failed, 0);
            if (failed != 0) {
                return new Object[0];
            }
            try (URLClassLoader loader = new URLClassLoader(new URL[] {folder.toUri().toURL()})) {
                return (Object[]) loader.loadClass("Example").getMethod("run").invoke(null);
            }
        } finally {
            remove(folder);
        }
    }

    private static void remove(Path folder) throws IOException {
        try (Stream<Path> files = Files.walk(folder)) {
            for (Path file : files.sorted(Comparator.reverseOrder()).collect(Collectors.toList())) {
                Files.delete(file);
            }
        }
    }

    private static void allCallsAreTold(String readme) {
        for (Method method : GlassRopes.class.getDeclaredMethods()) {
            if (Modifier.isPublic(method.getModifiers())) {
                Due.same("README.md tells of " + method.getName(), readme.contains("`" + method.getName() + "`"), true);
            }
        }
    }

    private static void allTestsAreTold(String readme) throws IOException {
        try (Stream<Path> files = Files.list(Path.of("src/test/java"))) {
            for (Path file : files.collect(Collectors.toList())) {
                String name = file.getFileName().toString().replace(".java", "");
                Due.same("README.md tells of " + name, readme.contains("`" + name + "`"), true);
            }
        }
    }
}
