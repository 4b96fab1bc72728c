import java.io.ByteArrayOutputStream;
import java.io.IOException;
import java.io.PrintStream;
import java.lang.reflect.Method;
import java.lang.reflect.Modifier;
import java.net.URL;
import java.net.URLClassLoader;
import java.nio.charset.StandardCharsets;
import java.nio.file.Files;
import java.nio.file.Path;
import java.util.ArrayList;
import java.util.List;
import java.util.regex.Matcher;
import java.util.regex.Pattern;
import javax.tools.JavaCompiler;
import javax.tools.ToolProvider;

/** README.md shows an example whose answers are right, and names every call and every test; it runs in the root. */
public final class ReadmeTest {

    private static int wrong = 0;

    public static void main(String[] args) throws Exception {
        String page = Files.readString(Path.of("README.md"));
        Matcher block = Pattern.compile("(?s)```java\n(.*?)```").matcher(page);
        must(block.find(), "there is no example");
        if (wrong == 0) {
            answersAreRight(block.group(1));
        }
        namesEveryCall(page);
        namesEveryTest(page);
        System.out.println("things wrong with the readme: " + wrong);
        System.exit(wrong == 0 ? 0 : 1);
    }

    private static void must(boolean holds, String what) {
        if (!holds) {
            wrong++;
            System.out.println("the readme: " + what);
        }
    }

    private static void answersAreRight(String example) throws Exception {
        List<String> due = told(example);
        List<String> got = printedBy(example);
        must(due.size() > 10, "too few answers are told");
        must(due.equals(got), "the example tells " + due + " and prints " + got);
    }

    /** The answers that stand behind the lines that print: each up to a comma or the end. */
    private static List<String> told(String example) {
        List<String> all = new ArrayList<>();
        Matcher line = Pattern.compile("System\\.out\\.println\\(.*\\);\\s*// ([^,\n]*)").matcher(example);
        while (line.find()) {
            all.add(line.group(1));
        }
        return all;
    }

    private static List<String> printedBy(String example) throws Exception {
        Path place = Files.createTempDirectory("readme");
        Path file = place.resolve("Example.java");
        Files.writeString(file, example);
        JavaCompiler compiler = ToolProvider.getSystemJavaCompiler();
        int code = compiler.run(null, null, null, "-cp", System.getProperty("java.class.path"), "-d", place.toString(),
            file.toString());
        must(code == 0, "the example can't be compiled");
        List<String> printed = code == 0 ? run(place) : new ArrayList<>();
        for (String name : new String[] {"Example.class", "Example.java", ""}) {
            Files.deleteIfExists(place.resolve(name));
        }
        return printed;
    }

    private static List<String> run(Path place) throws Exception {
        ByteArrayOutputStream bytes = new ByteArrayOutputStream();
        PrintStream before = System.out;
        try (URLClassLoader loader = new URLClassLoader(new URL[] {place.toUri().toURL()})) {
            Method main = loader.loadClass("Example").getMethod("main", String[].class);
            System.setOut(new PrintStream(bytes, true, StandardCharsets.UTF_8));
            main.invoke(null, (Object) new String[0]);
        } finally {
            System.setOut(before);
        }
        return bytes.toString(StandardCharsets.UTF_8).lines().toList();
    }

    private static void namesEveryCall(String page) {
        for (Method m : CoreLeases.class.getDeclaredMethods()) {
            if (Modifier.isPublic(m.getModifiers())) {
                must(page.contains("`" + m.getName() + "`"), "does not name the call " + m.getName());
            }
        }
    }

    private static void namesEveryTest(String page) throws IOException {
        try (var files = Files.list(Path.of("src/test/java"))) {
            for (Path file : files.toList()) {
                String name = file.getFileName().toString().replace(".java", "");
                must(page.contains("`" + name + "`"), "does not name " + name);
            }
        }
        Matcher named = Pattern.compile("`(\\w+Test)`").matcher(page);
        while (named.find()) {
            must(Files.exists(Path.of("src/test/java", named.group(1) + ".java")), "there is no " + named.group(1));
        }
        must(page.contains(".ci/run"), "does not say how the tests are run");
    }
}
