import java.io.ByteArrayOutputStream;
import java.io.IOException;
import java.io.PrintStream;
import java.nio.charset.StandardCharsets;
import java.nio.file.Files;
import java.nio.file.Path;

/** README.md shows the example as it is, and what it prints. It is run from the project's root. */
final class ReadmeTest extends Check {
    public static void main(String[] args) throws IOException {
        String readme = Files.readString(Path.of("README.md"));
        String example = Files.readString(Path.of("src", "test", "java", "Example.java"));
        due("README.md: the example as it is", readme.contains(block("java", example)), true);
        due("README.md: what it prints", readme.contains(block("text", printed())), true);
        end();
    }

    private static String block(String language, String lines) {
        return "\n```" + language + "\n" + lines + "```\n";
    }

    private static String printed() {
        PrintStream before = System.out;
        ByteArrayOutputStream bytes = new ByteArrayOutputStream();
        System.setOut(new PrintStream(bytes, true, StandardCharsets.UTF_8));
        Example.main(new String[0]);
        System.setOut(before);
        return bytes.toString(StandardCharsets.UTF_8).replace(System.lineSeparator(), "\n");
    }
}
