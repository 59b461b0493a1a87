import java.io.ByteArrayOutputStream;
import java.io.IOException;
import java.io.PrintStream;
import java.lang.reflect.Method;
import java.lang.reflect.Modifier;
import java.net.URL;
import java.net.URLClassLoader;
import java.nio.charset.StandardCharsets;
import java.nio.file.Files;
import java.nio.file.Path;
import java.util.ArrayList;
import java.util.List;
import java.util.Set;
import java.util.TreeSet;
import java.util.regex.Matcher;
import java.util.regex.Pattern;
import java.util.stream.Stream;
import javax.tools.ToolProvider;

/** What README.md says is so: its example is compiled and run as it stands, and each printed line held against its comment. */
public final class ReadmeTest {
    private static final Pattern PRINTED = Pattern.compile("System\\.out\\.println\\(.*\\);\\s*// (-?\\d+|true|false)\\b");
    private static int wrong;

    private ReadmeTest() {
    }

    private static void expect(String what, boolean is) {
        if (!is) {
            wrong++;
            System.out.println("not so: " + what);
        }
    }

    private static String example(String readme) {
        Matcher block = Pattern.compile("(?s)```java\n(.*?)```").matcher(readme);
        return block.find() ? block.group(1) : "";
    }

    private static List<String> saidAnswers(String source) {
        List<String> said = new ArrayList<>();
        for (String line : source.split("\n")) {
            Matcher printed = PRINTED.matcher(line);
            if (printed.find()) {
                said.add(printed.group(1));
            } else {
                expect("an answer is said behind: " + line.trim(), !line.contains("println"));
            }
        }
        return said;
    }

    private static List<String> givenAnswers(String source, Path room) throws Exception {
        Path file = room.resolve("Example.java");
        Files.writeString(file, source);
        int failed = ToolProvider.getSystemJavaCompiler().run(null, null, null, "-d", room.toString(),
            "src/main/java/StoneCensus.java", file.toString());
        expect("the example compiles", failed == 0);
        if (failed != 0) {
            return List.of();
        }
        PrintStream out = System.out;
        ByteArrayOutputStream printed = new ByteArrayOutputStream();
        // Without a parent that knows this test's own StoneCensus: the example stands alone.
        try (URLClassLoader loader = new URLClassLoader(new URL[] {room.toUri().toURL()}, ClassLoader.getPlatformClassLoader())) {
            System.setOut(new PrintStream(printed, true, StandardCharsets.UTF_8));
            loader.loadClass("Example").getMethod("main", String[].class).invoke(null, (Object) new String[0]);
        } finally {
            System.setOut(out);
        }
        return printed.toString(StandardCharsets.UTF_8).lines().toList();
    }

    private static void exampleAnswersWhatItSays(String readme) throws Exception {
        String source = example(readme);
        List<String> said = saidAnswers(source);
        Path room = Files.createTempDirectory("readme");
        try {
            List<String> given = givenAnswers(source, room);
            expect("the example says " + said + " and answers " + given, said.equals(given));
            expect("the example has answers", said.size() > 20);
        } finally {
            empty(room);
        }
    }

    private static void empty(Path room) throws IOException {
        try (Stream<Path> files = Files.list(room)) {
            for (Path file : files.toList()) {
                Files.delete(file);
            }
        }
        Files.delete(room);
    }

    /** With as many arguments as it takes. */
    private static void everyCallIsNamed(String readme) {
        Set<String> named = new TreeSet<>();
        Matcher call = Pattern.compile("`(\\w+)\\(([a-z, ]*)\\)`").matcher(readme);
        while (call.find()) {
            named.add(call.group(1) + " " + (call.group(2).isEmpty() ? 0 : call.group(2).split(", ").length));
        }
        for (Method m : StoneCensus.class.getDeclaredMethods()) {
            if (Modifier.isPublic(m.getModifiers())) {
                String call1 = m.getName() + " " + m.getParameterCount();
                expect("README names " + call1, named.contains(call1));
            }
        }
    }

    private static void everyTestIsNamed(String readme) throws IOException {
        Set<String> named = new TreeSet<>();
        Matcher test = Pattern.compile("`(\\w+Test)`").matcher(readme);
        while (test.find()) {
            named.add(test.group(1));
        }
        Set<String> there = new TreeSet<>();
        try (Stream<Path> files = Files.list(Path.of("src/test/java"))) {
            files.map(f -> f.getFileName().toString()).filter(f -> f.endsWith("Test.java"))
                .forEach(f -> there.add(f.substring(0, f.length() - ".java".length())));
        }
        expect("the tests are " + there + ", not " + named, there.equals(named));
    }

    private static void everyClassInsideIsThere(String readme) {
        Set<String> named = new TreeSet<>();
        String made = readme.replaceFirst("(?s)^.*## How it is made", "").replaceFirst("(?s)## Running.*$", "");
        Matcher name = Pattern.compile("`([A-Z]\\w+)`").matcher(made);
        while (name.find()) {
            named.add(name.group(1));
        }
        Set<String> there = new TreeSet<>();
        for (Class<?> c : StoneCensus.class.getDeclaredClasses()) {
            there.add(c.getSimpleName());
        }
        expect("the classes inside are " + there + ", not " + named, there.equals(named));
    }

    public static void main(String[] args) throws Exception {
        String readme = Files.readString(Path.of("README.md"));
        exampleAnswersWhatItSays(readme);
        everyCallIsNamed(readme);
        everyTestIsNamed(readme);
        everyClassInsideIsThere(readme);
        System.out.println(wrong + " things not so");
        if (wrong != 0) {
            System.exit(1);
        }
    }
}
