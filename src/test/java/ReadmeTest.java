import java.io.IOException;
import java.nio.file.DirectoryStream;
import java.nio.file.Files;
import java.nio.file.Path;
import java.util.ArrayList;
import java.util.List;

/** What README.md says is so. It is run, as .ci/run does, from the project's root. */
public final class ReadmeTest {
    private static final Checks CHECKS = new Checks();
    // The command that has this test run: it would never come to an end.
    private static final String ALL_TESTS = ".ci/run";

    private ReadmeTest() {
    }

    public static void main(String[] args) throws IOException, InterruptedException {
        CHECKS.about("README.md");
        List<String> readme = Files.readAllLines(Path.of("README.md"));
        exampleIsTheFile(readme);
        commandsWork(readme);
        tableHasEveryTest(readme);
        CHECKS.end("ReadmeTest");
    }

    /** The lines inside the fences of that language, those of all its blocks together. */
    private static List<String> inside(List<String> readme, String language) {
        List<String> lines = new ArrayList<>();
        String fence = "";
        for (String line : readme) {
            if (line.startsWith("```")) {
                fence = fence.isEmpty() ? line : "";
            } else if (fence.equals("```" + language)) {
                lines.add(line);
            }
        }
        return lines;
    }

    private static void exampleIsTheFile(List<String> readme) throws IOException {
        List<String> file = Files.readAllLines(Path.of("src/example/java/Example.java"));
        CHECKS.alike("the example", String.join("\n", inside(readme, "java")), String.join("\n", file));
    }

    private static void commandsWork(List<String> readme) throws IOException, InterruptedException {
        List<String> commands = inside(readme, "sh");
        CHECKS.yes("a command runs all tests", commands.remove(ALL_TESTS));
        String example = "";
        for (String command : commands) {
            Process process = new ProcessBuilder("sh", "-c", command).redirectErrorStream(true).start();
            process.getOutputStream().close();
            String printed = new String(process.getInputStream().readAllBytes());
            CHECKS.same(command + " printed " + printed + "and", process.waitFor(), 0);
            example = command.endsWith(" Example") ? printed : example;
        }
        CHECKS.alike("what the example prints", example, String.join("\n", inside(readme, "text")) + "\n");
    }

    private static void tableHasEveryTest(List<String> readme) throws IOException {
        String text = String.join("\n", readme);
        try (DirectoryStream<Path> tests = Files.newDirectoryStream(Path.of("src/test/java"), "*Test.java")) {
            for (Path test : tests) {
                String name = test.getFileName().toString().replace(".java", "");
                CHECKS.yes("a row for " + name, text.contains("\n| `" + name + "` | "));
            }
        }
    }
}
