import java.io.ByteArrayOutputStream;
import java.io.PrintStream;
import java.net.URL;
import java.net.URLClassLoader;
import java.nio.file.Files;
import java.nio.file.Path;
import java.util.ArrayList;
import java.util.List;
import java.util.regex.Matcher;
import java.util.regex.Pattern;
import javax.tools.ToolProvider;

/** The program in README.md compiles as it stands and prints what it says behind its lines. */
public final class ReadmeTest {
    private static final Pattern PROGRAM = Pattern.compile("```java\n(.*?)```", Pattern.DOTALL);
    private static final Pattern LINE = Pattern.compile("println\\(stack\\.|println\\(Float");
    private static final Pattern ANSWER = Pattern.compile("println\\(.*\\); *// ([-0-9.]+)(:.*)?");

    public static void main(String[] args) throws Exception {
        Matcher found = PROGRAM.matcher(Files.readString(Path.of("README.md")));
        if (!found.find()) {
            throw new IllegalStateException("no program in README.md");
        }
        List<String> told = answersIn(found.group(1));
        List<String> printed = run(found.group(1));
        Check check = new Check();
        check.due("lines that are printed", printed.size(), told.size());
        for (int i = 0; i < told.size() && i < printed.size(); i++) {
            boolean same = told.get(i).equals(printed.get(i));
            check.due("line " + i + " prints " + printed.get(i) + ", told " + told.get(i), same ? 1 : 0, 1);
        }
        check.end("ReadmeTest");
    }

    private static List<String> answersIn(String program) {
        List<String> told = new ArrayList<>();
        for (String line : program.split("\n")) {
            Matcher answer = ANSWER.matcher(line);
            if (answer.find()) {
                told.add(answer.group(1));
            } else if (LINE.matcher(line).find()) {
                throw new IllegalStateException("README.md tells no answer: " + line);
            }
        }
        return told;
    }

    private static List<String> run(String program) throws Exception {
        Path room = Files.createTempDirectory("readme");
        Path source = room.resolve("Example.java");
        Files.writeString(source, program);
        int failed = ToolProvider.getSystemJavaCompiler().run(null, null, null, "-cp",
                System.getProperty("java.class.path"), "-d", room.toString(), source.toString());
        if (failed != 0) {
            throw new IllegalStateException("README.md's program does not compile");
        }
        ByteArrayOutputStream printed = new ByteArrayOutputStream();
        PrintStream before = System.out;
        try (URLClassLoader loader = new URLClassLoader(new URL[] {room.toUri().toURL()})) {
            System.setOut(new PrintStream(printed, true));
            var main = loader.loadClass("Example").getDeclaredMethod("main", String[].class);
            main.setAccessible(true);
            main.invoke(null, (Object) new String[0]);
        } finally {
            System.setOut(before);
            Files.deleteIfExists(room.resolve("Example.class"));
            Files.deleteIfExists(source);
            Files.deleteIfExists(room);
        }
        return printed.toString().lines().toList();
    }
}
