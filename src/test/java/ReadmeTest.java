import java.io.ByteArrayOutputStream;
import java.io.IOException;
import java.io.PrintStream;
import java.nio.charset.StandardCharsets;
import java.nio.file.Files;
import java.nio.file.Path;
import java.util.stream.Stream;

/** README.md shows Example.java as it is, with what it prints, and names every test. */
public final class ReadmeTest {
    private static int wrong;

    public static void main(String[] args) throws IOException {
        String readme = Files.readString(Path.of("README.md"));
        must(readme.contains(block("java", Files.readString(Path.of("src/test/java/Example.java")))),
                "README.md has Example.java as it is");
        String printed = printed();
        must(readme.contains(block("text", printed)), "README.md has what Example prints:\n" + printed);
        try (Stream<Path> files = Files.list(Path.of("src/test/java"))) {
            for (Path file : files.toList()) {
                String name = file.getFileName().toString();
                String told = name.endsWith("Test.java") ? "| `" + name.replace(".java", "") + "` |" : name;
                must(readme.contains(told), "README.md names " + told);
            }
        }
        must(readme.contains("`.ci/run`") || readme.contains("\n.ci/run\n"), "README.md tells how .ci/run is run");
        System.out.println(wrong == 0 ? "README.md tells what is here" : wrong + " things are not so");
        if (wrong != 0) {
            System.exit(1);
        }
    }

    private static void must(boolean holds, String what) {
        if (!holds) {
            wrong++;
            System.out.println("not so: " + what);
        }
    }

    private static String block(String kind, String text) {
        return "```" + kind + "\n" + text + "```\n";
    }

    private static String printed() {
        PrintStream out = System.out;
        ByteArrayOutputStream bytes = new ByteArrayOutputStream();
        try (PrintStream caught = new PrintStream(bytes, true, StandardCharsets.UTF_8)) {
            System.setOut(caught);
            Example.main(new String[0]);
        } finally {
            System.setOut(out);
        }
        return bytes.toString(StandardCharsets.UTF_8).replace(System.lineSeparator(), "\n");
    }
}
