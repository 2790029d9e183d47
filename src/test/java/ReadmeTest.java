import java.io.ByteArrayOutputStream;
import java.io.IOException;
import java.io.PrintStream;
import java.net.URL;
import java.net.URLClassLoader;
import java.nio.file.Files;
import java.nio.file.Path;
import javax.tools.ToolProvider;

/** The program in README.md can be compiled, and prints what is said there. */
public final class ReadmeTest {
    private static final String BEGIN = "```java\n";
    private static final String END = "```\n";

    public static void main(String[] args) throws Exception {
        String readme = Files.readString(Path.of("README.md"));
        int begin = readme.indexOf(BEGIN) + BEGIN.length();
        String program = readme.substring(begin, readme.indexOf(END, begin));
        Check.due("what the program prints", printed(program), "30 instructions\nthe answer is 10\n");
        Check.due("what it prints is told", readme.contains("prints `30 instructions` and `the answer is 10`"), true);
        Check.due("a function without an end stops: why", Check.ended(60, "@fx=f x;f 0").why(), 2);
        Check.due("a function without an end stops: why", Check.ended(200, "@fx=f x;f 0").why(), 3);
        Check.finish();
    }

    private static String printed(String program) throws Exception {
        Path folder = Files.createTempDirectory("readme");
        PrintStream out = System.out;
        ByteArrayOutputStream caught = new ByteArrayOutputStream();
        try (URLClassLoader loader = new URLClassLoader(new URL[] {folder.toUri().toURL()})) {
            compile(folder, program);
            System.setOut(new PrintStream(caught, true));
            loader.loadClass("Sums").getMethod("main", String[].class).invoke(null, (Object) new String[0]);
        } finally {
            System.setOut(out);
            remove(folder);
        }
        return caught.toString().replace(System.lineSeparator(), "\n");
    }

    private static void compile(Path folder, String program) throws IOException {
        Path source = Files.writeString(folder.resolve("Sums.java"), program);
        int failed = ToolProvider.getSystemJavaCompiler().run(null, null, null,
            "-cp", System.getProperty("java.class.path"), "-d", folder.toString(), source.toString());
        Check.due("the program is compiled: exit code", failed, 0);
    }

    private static void remove(Path folder) throws IOException {
        for (String name : new String[] {"Sums.java", "Sums.class"}) {
            Files.deleteIfExists(folder.resolve(name));
        }
        Files.delete(folder);
    }
}
