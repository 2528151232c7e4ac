import java.io.ByteArrayOutputStream;
import java.io.PrintStream;
import java.nio.file.Files;
import java.nio.file.Path;

/** README.md shows Example.java as it is and prints what it prints, and names every test that .ci/run runs. */
public final class ReadmeTest {
    private static int passed = 0;
    private static int failed = 0;

    private static void holds(String what, boolean so) {
        if (so) {
            passed++;
        } else {
            failed++;
            System.out.println("README.md: " + what);
        }
    }

    private static String block(String readme, String kind) {
        String opening = "```" + kind + "\n";
        int from = readme.indexOf(opening);
        int to = from < 0 ? -1 : readme.indexOf("```", from + opening.length());
        return to < 0 ? "" : readme.substring(from + opening.length(), to);
    }

    private static String printedByExample() {
        PrintStream screen = System.out;
        ByteArrayOutputStream kept = new ByteArrayOutputStream();
        System.setOut(new PrintStream(kept, true));
        Example.main(new String[0]);
        System.setOut(screen);
        return kept.toString().replace(System.lineSeparator(), "\n");
    }

    public static void main(String[] args) throws Exception {
        Path root = Path.of("");
        String readme = Files.readString(root.resolve("README.md"));
        String example = Files.readString(root.resolve("src/test/java/Example.java"));
        holds("the example is Example.java", block(readme, "java").equals(example));
        holds("what the example prints", block(readme, "text").equals(printedByExample()));
        String script = Files.readString(root.resolve(".ci/run"));
        try (var files = Files.newDirectoryStream(root.resolve("src/test/java"), "*Test.java")) {
            for (Path file : files) {
                String name = file.getFileName().toString();
                holds(name + " is told", readme.contains(name));
                holds(name + " is run", script.contains(name.replace(".java", "")));
            }
        }
        System.out.println("ReadmeTest: " + passed + " passed, " + failed + " failed");
        if (failed > 0) {
            System.exit(1);
        }
    }
}
