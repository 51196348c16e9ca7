import java.io.ByteArrayOutputStream;
import java.io.IOException;
import java.io.PrintStream;
import java.net.URL;
import java.net.URLClassLoader;
import java.nio.charset.StandardCharsets;
import java.nio.file.Files;
import java.nio.file.Path;
import java.util.ArrayList;
import java.util.List;
import javax.tools.ToolProvider;

/** The example of README.md: it compiles, and prints what the comments behind its lines say. */
public final class ReadmeTest {
    private static final String PRINTING = "System.out.println(";

    private ReadmeTest() {
    }

    public static void main(String[] args) throws IOException, ReflectiveOperationException {
        String readme = Files.readString(Path.of("README.md"));
        String example = readme.substring(readme.indexOf("```java\n") + 8);
        example = example.substring(0, example.indexOf("```"));
        List<String> comments = new ArrayList<>();
        for (String line : example.split("\n")) {
            if (line.contains(PRINTING)) {
                comments.add(line.substring(line.indexOf("// ") + 3));
            }
        }
        List<String> lines = printed(example);
        Checks.due("lines that the example prints", comments.size(), lines.size());
        for (int i = 0; i < lines.size() && i < comments.size(); i++) {
            boolean isSaid = comments.get(i).equals(lines.get(i)) || comments.get(i).matches("\\Q" + lines.get(i) + "\\E,? .*");
            Checks.due("the example printed " + lines.get(i) + ", README.md says " + comments.get(i), true, isSaid);
        }
        for (String name : new String[] {"feed", "end", "read", "unify", "same", "part", "mark", "undo", "reset", "print", "word",
            "count"}) {
            Checks.due("README.md tells of " + name, true, readme.contains("| `" + name + "("));
        }
        Checks.close("ReadmeTest");
    }

    private static List<String> printed(String example) throws IOException, ReflectiveOperationException {
        Path made = Files.createTempDirectory("readme");
        Path source = Files.writeString(made.resolve("Example.java"), example);
        int code = ToolProvider.getSystemJavaCompiler().run(null, null, null, "-proc:none", "-d", made.toString(),
                "src/main/java/UnifyBench.java", source.toString());
        Checks.due("javac of the example", 0, code);
        PrintStream before = System.out;
        ByteArrayOutputStream out = new ByteArrayOutputStream();
        try (URLClassLoader loader = new URLClassLoader(new URL[] {made.toUri().toURL()}, null)) {
            System.setOut(new PrintStream(out, true));
            loader.loadClass("Example").getMethod("main", String[].class).invoke(null, (Object) new String[0]);
        } finally {
            System.setOut(before);
            deleteAll(made);
        }
        return out.toString(StandardCharsets.ISO_8859_1).lines().toList();
    }

    private static void deleteAll(Path folder) throws IOException {
        try (var files = Files.list(folder)) {
            for (Path file : files.toList()) {
                Files.delete(file);
            }
        }
        Files.delete(folder);
    }
}
