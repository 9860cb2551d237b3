import java.io.ByteArrayOutputStream;
import java.io.IOException;
import java.io.PrintStream;
import java.lang.reflect.Field;
import java.lang.reflect.Method;
import java.lang.reflect.Modifier;
import java.net.URL;
import java.net.URLClassLoader;
import java.nio.file.Files;
import java.nio.file.Path;
import java.util.List;
import java.util.regex.Matcher;
import java.util.regex.Pattern;
import java.util.stream.Stream;
import javax.tools.ToolProvider;

/** README.md tells the truth: its example is compiled and run, its tables are compared with the class. */
final class ReadmeTest {
    private static final Path BUILD = Path.of("build", "readme");
    private static final int INVALID = -1;

    private ReadmeTest() {
    }

    public static void main(String[] args) throws Exception {
        String readme = Files.readString(Path.of("README.md"));
        example(block(readme, "java"), block(readme, "text"));
        calls(readme);
        constants(readme);
        settings(readme);
        history(readme);
        Due.is("README.md tells the number of calls", count(readme, "at most 512 calls"), 1);
        tests(readme);
        Due.end("ReadmeTest");
    }

    /** The text between the marks of the only block of its kind. */
    private static String block(String readme, String kind) {
        String mark = "```" + kind + "\n";
        Due.is("blocks of " + kind, count(readme, Pattern.quote(mark)), 1);
        int from = readme.indexOf(mark);
        int to = readme.indexOf("```", from + mark.length());
        return from < 0 || to < 0 ? "" : readme.substring(from + mark.length(), to);
    }

    private static int count(String text, String pattern) {
        Matcher found = Pattern.compile(pattern, Pattern.MULTILINE).matcher(text);
        int count = 0;
        while (found.find()) {
            count++;
        }
        return count;
    }

    /** The example is compiled with the class alone, as README.md says, and prints what README.md says. */
    private static void example(String code, String due) throws Exception {
        Files.createDirectories(BUILD);
        Path file = BUILD.resolve("Example.java");
        Files.writeString(file, code);
        int exit = ToolProvider.getSystemJavaCompiler().run(null, null, null, "-d", BUILD.toString(),
                "src/main/java/BilingualSetter.java", file.toString());
        Due.is("javac of the example", exit, 0);
        if (exit == 0) {
            Due.same("the example", printed(), due);
        }
    }

    private static String printed() throws Exception {
        ByteArrayOutputStream bytes = new ByteArrayOutputStream();
        PrintStream out = System.out;
        URL[] place = {BUILD.toUri().toURL()};
        try (URLClassLoader loader = new URLClassLoader(place, ClassLoader.getPlatformClassLoader())) {
            System.setOut(new PrintStream(bytes));
            Method main = loader.loadClass("Example").getMethod("main", String[].class);
            main.invoke(null, (Object) new String[0]);
        } finally {
            System.setOut(out);
        }
        return bytes.toString().replace(System.lineSeparator(), "\n");
    }

    /** Each method of the face has a row, with as many arguments, and no other one has. */
    private static void calls(String readme) {
        int methods = 0;
        for (Method method : BilingualSetter.class.getDeclaredMethods()) {
            if (Modifier.isPublic(method.getModifiers())) {
                methods++;
                String arguments = "\\w+, ".repeat(method.getParameterCount()).replaceAll(", $", "");
                Due.is("rows of " + method, count(readme, "^\\| `" + method.getName() + "\\(" + arguments + "\\)` \\|"), 1);
            }
        }
        Due.is("rows of calls", count(readme, "^\\| `\\w+\\("), methods);
    }

    private static void constants(String readme) throws IllegalAccessException {
        int constants = 0;
        for (Field field : BilingualSetter.class.getDeclaredFields()) {
            if (Modifier.isPublic(field.getModifiers())) {
                constants++;
                Due.is("rows of " + field, count(readme, "^\\| `" + field.getName() + "` \\| " + field.getInt(null) + " \\|"), 1);
            }
        }
        Due.is("rows of constants", count(readme, "^\\| `[A-Z_]+` \\|"), constants);
    }

    /** The ranges and first values of the settings are those of a new object. */
    private static void settings(String readme) {
        Matcher row = Pattern.compile("^\\| (\\d) \\| (\\w+) \\| (\\d+) to (\\d+) \\| (\\d+) \\|", Pattern.MULTILINE)
                .matcher(readme);
        int what = 0;
        while (row.find()) {
            int low = Integer.parseInt(row.group(3));
            int high = Integer.parseInt(row.group(4));
            BilingualSetter x = new BilingualSetter();
            Due.is("number of " + row.group(2), Integer.parseInt(row.group(1)), what);
            Due.are(row.group(2), new int[] {x.set(what, low - 1), x.set(what, low), x.set(what, high), x.set(what, high + 1),
                x.set(what, low)}, INVALID, Integer.parseInt(row.group(5)), low, INVALID, high);
            what++;
        }
        Due.is("rows of settings", what, 6);
        Due.is("a setting more", new BilingualSetter().set(what, 1), INVALID);
    }

    private static void history(String readme) {
        BilingualSetter x = new BilingualSetter();
        for (int n = 0; n < 20; n++) {
            x.set(0, 20);
        }
        Due.is("README.md tells the states of undo", count(readme, "of the latest " + (x.undo() + 1) + " \\|"), 1);
    }

    /** Each test is told of, and how all are run. */
    private static void tests(String readme) throws IOException {
        Due.is("README.md tells how the tests are run", count(readme, "^    \\.ci/run$"), 1);
        try (Stream<Path> files = Files.list(Path.of("src/test/java"))) {
            List<String> names = files.map(file -> file.getFileName().toString().replace(".java", "")).sorted().toList();
            for (String name : names) {
                Due.is("README.md tells of " + name, count(readme, "`" + name + "`") > 0 ? 1 : 0, 1);
            }
        }
    }
}
