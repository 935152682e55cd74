import java.io.File;
import java.io.IOException;
import java.io.UncheckedIOException;
import java.lang.reflect.Method;
import java.lang.reflect.Modifier;
import java.nio.file.Files;
import java.nio.file.Path;

/** What README.md says is so when tried; it is read from the folder in which the tests are run. */
public final class ReadmeTests extends Checks {
    private static final String PROGRAM = "src/main/java/TaxiRank.java";

    // README.md, "This is a whole program that uses it" and "prints".
    static void exampleAnswersAsThePageSays() throws Exception {
        String page = page();
        Path folder = Files.createTempDirectory("readme");
        try {
            isText("the example", outputOf(folder, blockOf(page, "java")), blockOf(page, "text"));
        } finally {
            removeFilesOf(folder);
        }
    }

    // README.md, "The calls": each method of the class has its row.
    static void everyCallHasItsRow() {
        String page = page();
        for (Method method : TaxiRank.class.getDeclaredMethods()) {
            if (Modifier.isPublic(method.getModifiers())) {
                is("a row of " + method.getName(), page.contains("\n| `" + method.getName() + "(") ? 1 : 0, 1);
            }
        }
    }

    // README.md, "Tests": each file of tests is named, and so is what they share.
    static void everyTestIsNamed() {
        String page = page();
        String[] files = new File("src/test/java").list();
        is("there are tests", files == null || files.length == 0 ? 0 : 1, 1);
        for (String file : files == null ? new String[0] : files) {
            String name = file.replace(".java", "");
            is(name + " is named", page.contains("`" + name + "`") ? 1 : 0, 1);
        }
    }

    // README.md, "Tests": the files that the page speaks of are there, and .ci/run can be run.
    static void filesOfThePageAreThere() {
        String page = page();
        String[] files = {PROGRAM, "src/test/support/Checks.java", "src/test/java", "../shared/tests", ".ci/run"};
        for (String file : files) {
            is(file + " is named", page.contains(file) ? 1 : 0, 1);
            is(file + " is there", new File(file).exists() ? 1 : 0, 1);
        }
        is(".ci/run can be run", new File(".ci/run").canExecute() ? 1 : 0, 1);
    }

    private static String page() {
        try {
            return Files.readString(Path.of("README.md"));
        } catch (IOException e) {
            throw new UncheckedIOException(e);
        }
    }

    /** The first block of this kind; empty if there is none. */
    private static String blockOf(String page, String kind) {
        String[] parts = page.split("```" + kind + "\n", 2);
        return parts.length < 2 ? "" : parts[1].split("```", 2)[0];
    }

    private static String outputOf(Path folder, String program) throws Exception {
        Path source = folder.resolve("Example.java");
        Files.writeString(source, program);
        isText("javac", outputOfCommand("javac", "-d", folder.toString(), PROGRAM, source.toString()), "");
        return outputOfCommand("java", "-cp", folder.toString(), "Example");
    }

    private static String outputOfCommand(String... words) throws Exception {
        Process process = new ProcessBuilder(words).redirectError(ProcessBuilder.Redirect.INHERIT).start();
        String output = new String(process.getInputStream().readAllBytes()).replace("\r\n", "\n");
        is(words[0] + " ends with", process.waitFor(), 0);
        return output;
    }

    private static void removeFilesOf(Path folder) {
        File[] files = folder.toFile().listFiles();
        for (File file : files == null ? new File[0] : files) {
            file.delete();
        }
        folder.toFile().delete();
    }

    public static void main(String[] args) {
        runTestsOf(ReadmeTests.class);
    }
}
