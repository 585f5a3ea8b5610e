import java.io.ByteArrayOutputStream;
import java.io.IOException;
import java.io.PrintStream;
import java.lang.reflect.Method;
import java.lang.reflect.Modifier;
import java.net.URL;
import java.net.URLClassLoader;
import java.nio.file.DirectoryStream;
import java.nio.file.Files;
import java.nio.file.Path;
import java.util.ArrayList;
import java.util.List;
import java.util.Set;
import java.util.TreeSet;
import java.util.regex.Matcher;
import java.util.regex.Pattern;
import javax.tools.ToolProvider;

/**
 * README.md holds: its program compiles as it stands there, and each answer that it shows is the one
 * that the class gives; it names each call and each test. Run in the project's folder.
 */
public final class ReadmeTest {
    private static final Path README = Path.of("README.md");
    private static final Path TESTS = Path.of("src", "test", "java");
    private static final Pattern PROGRAM = Pattern.compile("(?s)\n```java\n(.*?)\n```\n");
    private static final Pattern SHOWN =
            Pattern.compile("\\s*(tell\\(x\\..*\\);) +// (-?\\d+)(: .+)?");
    private static final Pattern TEST_NAME = Pattern.compile("`(\\w+Test)`");
    private static final int LAST_REFUSAL = -6;
    private static final int FIRST_REFUSAL = -2;

    private static int wrong = 0;

    public static void main(String[] args) throws Exception {
        Due.watch();
        String readme = Files.readString(README);
        Matcher program = PROGRAM.matcher(readme);
        if (program.find()) {
            showsWhatIsAnswered(program.group(1));
        } else {
            no("there is no program in it");
        }
        if (program.find()) {
            no("there is a second program in it, which no test runs");
        }
        namesEachCall(readme);
        namesEachTest(readme);
        if (wrong != 0) {
            System.exit(1);
        }
    }

    private static void no(String what) {
        wrong++;
        System.out.println("README.md: " + what);
    }

    private static void showsWhatIsAnswered(String program) throws Exception {
        List<String> calls = new ArrayList<>();
        List<String> shown = new ArrayList<>();
        for (String line : program.split("\n")) {
            Matcher m = SHOWN.matcher(line);
            if (m.matches()) {
                calls.add(m.group(1));
                shown.add(m.group(2));
            } else if (line.contains("tell(x")) {
                no("no answer is shown: " + line.trim());
            }
        }
        List<String> answers = answersOf(program);
        if (answers.size() != shown.size()) {
            no(shown.size() + " answers are shown, " + answers.size() + " are given");
        }
        for (int i = 0; i < Math.min(answers.size(), shown.size()); i++) {
            if (!answers.get(i).equals(shown.get(i))) {
                no(calls.get(i) + " answers " + answers.get(i) + ", shown is " + shown.get(i));
            }
        }
        for (int refusal = FIRST_REFUSAL; refusal >= LAST_REFUSAL; refusal--) {
            if (!shown.contains("" + refusal)) {
                no("no refusal " + refusal + " is shown");
            }
        }
    }

    /** What the program prints, a line each; none if it does not compile. */
    private static List<String> answersOf(String program) throws Exception {
        Matcher name = Pattern.compile("public final class (\\w+)").matcher(program);
        if (!name.find()) {
            no("its program has no public class");
            return List.of();
        }
        Path dir = Files.createTempDirectory("readme");
        try {
            Path source = dir.resolve(name.group(1) + ".java");
            Files.writeString(source, program + "\n");
            int fault = ToolProvider.getSystemJavaCompiler().run(null, null, null, "-Xlint:all",
                    "-Werror", "-cp", System.getProperty("java.class.path"), "-d", dir.toString(),
                    source.toString());
            if (fault != 0) {
                no("its program does not compile");
                return List.of();
            }
            return printedBy(dir, name.group(1));
        } finally {
            remove(dir);
        }
    }

    private static List<String> printedBy(Path dir, String name) throws Exception {
        PrintStream out = System.out;
        ByteArrayOutputStream printed = new ByteArrayOutputStream();
        try (URLClassLoader loader = new URLClassLoader(new URL[] {dir.toUri().toURL()},
                ReadmeTest.class.getClassLoader())) {
            System.setOut(new PrintStream(printed, true));
            Method main = loader.loadClass(name).getMethod("main", String[].class);
            main.invoke(null, (Object) new String[0]);
        } finally {
            System.setOut(out);
        }
        return printed.toString().lines().toList();
    }

    private static void remove(Path dir) throws IOException {
        try (DirectoryStream<Path> files = Files.newDirectoryStream(dir)) {
            for (Path file : files) {
                Files.delete(file);
            }
        }
        Files.delete(dir);
    }

    private static void namesEachCall(String readme) {
        for (Method m : TheOneWithout.class.getDeclaredMethods()) {
            if (Modifier.isPublic(m.getModifiers()) && !readme.contains("`" + m.getName() + "`")) {
                no("it does not name the call " + m.getName());
            }
        }
    }

    private static void namesEachTest(String readme) throws IOException {
        Set<String> named = new TreeSet<>();
        Matcher m = TEST_NAME.matcher(readme);
        while (m.find()) {
            named.add(m.group(1));
        }
        Set<String> there = new TreeSet<>();
        try (DirectoryStream<Path> files = Files.newDirectoryStream(TESTS, "*Test.java")) {
            for (Path file : files) {
                there.add(file.getFileName().toString().replace(".java", ""));
            }
        }
        if (!named.equals(there)) {
            no("it names the tests " + named + ", there are " + there);
        }
    }
}
