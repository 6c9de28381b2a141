import java.io.ByteArrayOutputStream;
import java.io.IOException;
import java.io.PrintStream;
import java.lang.reflect.Method;
import java.lang.reflect.Modifier;
import java.net.URL;
import java.net.URLClassLoader;
import java.nio.file.Files;
import java.nio.file.Path;
import java.util.ArrayList;
import java.util.List;
import java.util.regex.Matcher;
import java.util.regex.Pattern;
import java.util.stream.Stream;
import javax.tools.JavaCompiler;
import javax.tools.ToolProvider;

/** What README.md shows must be true: its program prints what stands behind each line, and what it names is there. */
public final class ReadmeTest {
    private static final Path TESTS = Path.of("src/test/java");

    public static void main(String[] args) {
        Checks.run(ReadmeTest.class);
    }

    private static String readme() throws IOException {
        return Files.readString(Path.of("README.md"));
    }

    private static String program() throws IOException {
        Matcher m = Pattern.compile("(?s)```java\n(.*?)```").matcher(readme());
        if (!m.find()) {
            throw new IllegalStateException("README.md shows no program");
        }
        return m.group(1);
    }

    /** What the lines that print say behind // that they print. */
    private static List<String> told(String program) {
        List<String> answers = new ArrayList<>();
        Matcher m = Pattern.compile("System\\.out\\.println\\(.*\\);(?: *// (-?\\w+))?").matcher(program);
        while (m.find()) {
            answers.add(String.valueOf(m.group(1)));
        }
        return answers;
    }

    private static List<String> printed(String program) throws IOException, ReflectiveOperationException {
        Path out = Files.createTempDirectory("readme");
        Path file = Files.writeString(out.resolve("Example.java"), program);
        String classes = System.getProperty("java.class.path");
        JavaCompiler javac = ToolProvider.getSystemJavaCompiler();
        if (javac == null || javac.run(null, null, null, "-Xlint:all", "-Werror", "-cp", classes, "-d", out.toString(), file.toString()) != 0) {
            throw new IllegalStateException("README.md's program does not compile");
        }
        PrintStream before = System.out;
        ByteArrayOutputStream bytes = new ByteArrayOutputStream();
        try (URLClassLoader loader = new URLClassLoader(new URL[] {out.toUri().toURL()})) {
            System.setOut(new PrintStream(bytes, true));
            loader.loadClass("Example").getMethod("main", String[].class).invoke(null, (Object) new String[0]);
        } finally {
            System.setOut(before);
            for (String name : List.of("Example.java", "Example.class")) {
                Files.deleteIfExists(out.resolve(name));
            }
            Files.deleteIfExists(out);
        }
        return bytes.toString().lines().toList();
    }

    private static void theProgramPrintsWhatItSays(Checks c) throws IOException, ReflectiveOperationException {
        List<String> told = told(program());
        List<String> printed = printed(program());
        c.due("lines", printed.size(), told.size());
        for (int i = 0; i < Math.min(told.size(), printed.size()); i++) {
            c.due("line " + i + " prints " + printed.get(i) + ", it says " + told.get(i), told.get(i).equals(printed.get(i)), true);
        }
    }

    private static void theProgramUsesTheWholeClass(Checks c) throws IOException {
        for (Method m : NineTimbers.class.getDeclaredMethods()) {
            if (Modifier.isPublic(m.getModifiers())) {
                c.due("x." + m.getName(), program().contains("x." + m.getName() + "("), true);
            }
        }
    }

    private static void whatAFaultsNumberMeans(Checks c) {
        int answer = Checks.yard(new NineTimbers(), "kinds 1;ship 9");
        int fault = -2 - answer;
        c.due("fault", fault, 106);
        c.due("place", (fault - 1) / 8, 13);
        c.due("why", (fault - 1) % 8, 1);
    }

    private static void theTapeBehindAFaultAndBehindASeventhRule(Checks c) {
        NineTimbers x = new NineTimbers();
        Checks.yard(x, "ship");
        c.due("behind a yard's fault", x.count(11), 0);
        Checks.rule(x, "take");
        c.due("behind a rule's fault", x.count(11), 0);
        for (int i = 0; i < 6; i++) {
            Checks.rule(x, "take rot");
        }
        c.due("a seventh", Checks.rule(x, "take rot"), -1);
        c.due("its tape", x.count(11), 8);
    }

    private static void theTestsItNamesAreThereAndAllOthersAreNamed(Checks c) throws IOException {
        String readme = readme();
        Matcher m = Pattern.compile("\\b\\w+Test\\b").matcher(readme);
        while (m.find()) {
            c.due(m.group(), Files.exists(TESTS.resolve(m.group() + ".java")), true);
        }
        try (Stream<Path> files = Files.list(TESTS)) {
            for (Path file : files.toList()) {
                String name = file.getFileName().toString().replace(".java", "");
                boolean named = readme.contains("`" + name + "`") || name.startsWith("Promise");
                c.due(name + " is named", named || !name.endsWith("Test"), true);
            }
        }
    }

    private static void theClassesItNamesAreThere(Checks c) throws IOException {
        String built = readme().substring(readme().indexOf("## How it is built"));
        for (Class<?> k : NineTimbers.class.getDeclaredClasses()) {
            c.due(k.getSimpleName(), built.contains("`" + k.getSimpleName() + "`"), true);
        }
    }
}
