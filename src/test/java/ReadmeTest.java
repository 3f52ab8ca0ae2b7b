import java.io.IOException;
import java.io.InputStream;
import java.lang.reflect.Method;
import java.lang.reflect.Modifier;
import java.nio.charset.StandardCharsets;
import java.nio.file.DirectoryStream;
import java.nio.file.Files;
import java.nio.file.Path;

/** README.md: its program prints what it says there, and no call of the face and no test is left out. */
final class ReadmeTest {
    private static final Path README = Path.of("README.md");
    private static final Path TESTS = Path.of("src/test/java");
    private static final String MAIN = "src/main/java/LampRhythms.java";
    private static final String PROGRAM = "UseHarbour";

    public static void main(String[] args) throws IOException, InterruptedException {
        String page = Files.readString(README);
        programPrintsWhatThePageSays(page);
        everyCallStandsThere(page);
        everyTestStandsThere(page);
        Due.end();
    }

    private static void programPrintsWhatThePageSays(String page) throws IOException, InterruptedException {
        Path folder = Files.createTempDirectory("readme");
        Path program = folder.resolve(PROGRAM + ".java");
        Files.writeString(program, blockOf(page, "java"));
        String compiled = printed("javac", "-d", folder.toString(), MAIN, program.toString());
        Due.answer("javac of the program of README.md", compiled, "");
        String told = printed("java", "-cp", folder.toString(), PROGRAM);
        Due.answer("the program of README.md", told, blockOf(page, "text"));
        delete(folder);
    }

    private static void everyCallStandsThere(String page) {
        for (Method method : LampRhythms.class.getDeclaredMethods()) {
            if (Modifier.isPublic(method.getModifiers())) {
                String row = "| `" + method.getName() + "(";
                Due.answer("a row for " + method.getName(), page.contains(row), true);
            }
        }
    }

    private static void everyTestStandsThere(String page) throws IOException {
        try (DirectoryStream<Path> tests = Files.newDirectoryStream(TESTS, "*Test.java")) {
            for (Path test : tests) {
                String name = test.getFileName().toString().replace(".java", "");
                Due.answer("a row for " + name, page.contains("| `" + name + "` |"), true);
            }
        }
    }

    /** What stands in the first block of this kind; empty if there is none. */
    private static String blockOf(String page, String kind) {
        String opens = "```" + kind + "\n";
        int start = page.indexOf(opens);
        int end = page.indexOf("```", start + opens.length());
        return start < 0 || end < 0 ? "" : page.substring(start + opens.length(), end);
    }

    private static String printed(String... command) throws IOException, InterruptedException {
        // What the tools say of themselves on the error stream, as of their options, is no answer.
        Process process = new ProcessBuilder(command).redirectError(ProcessBuilder.Redirect.INHERIT).start();
        try (InputStream out = process.getInputStream()) {
            String text = new String(out.readAllBytes(), StandardCharsets.UTF_8);
            return process.waitFor() == 0 ? text : text + "exit code " + process.exitValue();
        }
    }

    private static void delete(Path folder) throws IOException {
        try (DirectoryStream<Path> files = Files.newDirectoryStream(folder)) {
            for (Path file : files) {
                Files.delete(file);
            }
        }
        Files.delete(folder);
    }
}
