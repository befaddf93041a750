import java.io.IOException;
import java.io.InputStream;
import java.nio.charset.StandardCharsets;
import java.nio.file.Files;
import java.nio.file.Path;
import java.util.Comparator;
import java.util.stream.Stream;

/** The program in README.md must be compiled by the command that stands there, and print what stands there. */
public final class ReadmeTests {
    private static final String CLASS_FILE = "src/main/java/FirstColour.java";

    public static void main(String[] args) throws IOException, InterruptedException {
        String readme = Files.readString(Path.of("README.md"));
        Path dir = Files.createTempDirectory("readme");
        boolean holds;
        try {
            holds = holds(readme, dir);
        } finally {
            remove(dir);
        }
        System.out.println(holds ? "README.md's program does what stands there" : "README.md is not as it should be");
        if (!holds) {
            System.exit(1);
        }
    }

    private static boolean holds(String readme, Path dir) throws IOException, InterruptedException {
        String commands = block(readme, "sh");
        Path program = dir.resolve("Yours.java");
        Files.writeString(program, block(readme, "java"));
        boolean isTold = commands.equals("javac -d build " + CLASS_FILE + " Yours.java\njava -cp build Yours\n");
        if (!isTold) {
            System.out.println("other commands than those that this test runs:\n" + commands);
        }
        run("javac", "-d", dir.toString(), CLASS_FILE, program.toString());
        String printed = run("java", "-cp", dir.toString(), "Yours");
        String due = block(readme, "text");
        boolean isPrinted = !due.isEmpty() && printed.equals(due);
        if (!isPrinted) {
            System.out.println("printed:\n" + printed + "due:\n" + due);
        }
        return isTold && isPrinted;
    }

    /** What stands in the first block of a language. */
    private static String block(String readme, String language) {
        String begin = "```" + language + "\n";
        int from = readme.indexOf(begin);
        int to = readme.indexOf("```\n", from + begin.length());
        return from < 0 || to < 0 ? "" : readme.substring(from + begin.length(), to);
    }

    private static String run(String... command) throws IOException, InterruptedException {
        // What the machine says of itself, on the stream of errors, is not what the program prints.
        Process process = new ProcessBuilder(command).redirectError(ProcessBuilder.Redirect.INHERIT).start();
        String printed;
        try (InputStream in = process.getInputStream()) {
            printed = new String(in.readAllBytes(), StandardCharsets.UTF_8);
        }
        int code = process.waitFor();
        return code == 0 ? printed : printed + command[0] + " ended with " + code + "\n";
    }

    private static void remove(Path dir) throws IOException {
        try (Stream<Path> all = Files.walk(dir)) {
            for (Path path : all.sorted(Comparator.reverseOrder()).toList()) {
                Files.delete(path);
            }
        }
    }
}
