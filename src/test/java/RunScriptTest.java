import java.io.IOException;
import java.io.UncheckedIOException;
import java.nio.file.Files;
import java.nio.file.Path;
import java.nio.file.StandardCopyOption;
import java.util.List;

/** The script .ci/run, in small projects: it fails if a test fails, does not compile, or if there is none. */
public final class RunScriptTest {
    private static final Due DUE = new Due("RunScriptTest");
    private static final String PASSES = "public final class %s { public static void main(String[] a) { "
            + "System.out.println(\"ran %s \" + DraughtWebs.NONE); } }";
    private static final String FAILS = "public final class %s { public static void main(String[] a) { "
            + "System.exit(DraughtWebs.NONE == -1 ? 1 : 0); } }";
    private static final String THROWS = "public final class %s { public static void main(String[] a) { "
            + "throw new IllegalStateException(); } }";
    private static final String NO_JAVA = "public final class %s {";
    private static final String NO_FILE = "";

    /** Tests of the project (ATest, BTest), shared ones (C, D), the exit code that is due. */
    private static final class Project {
        final String words;
        final String[] tests;
        final int due;
        Shell done;

        Project(String words, int due, String... tests) {
            this.words = words;
            this.due = due;
            this.tests = tests;
        }
    }

    private RunScriptTest() {
    }

    public static void main(String[] args) {
        List<Project> projects = List.of(
                new Project("all pass", 0, PASSES, PASSES, PASSES, PASSES),
                new Project("one shared test", 0, PASSES, PASSES, PASSES, NO_FILE),
                new Project("the first own test fails", 1, FAILS, PASSES, PASSES, PASSES),
                new Project("the last own test throws", 1, PASSES, THROWS, PASSES, PASSES),
                new Project("an own test does not compile", 1, PASSES, NO_JAVA, PASSES, PASSES),
                new Project("no own test", 1, NO_FILE, NO_FILE, PASSES, PASSES),
                new Project("the first shared test fails", 1, PASSES, PASSES, FAILS, PASSES),
                new Project("the last shared test throws", 1, PASSES, PASSES, PASSES, THROWS),
                new Project("a shared test does not compile", 1, PASSES, PASSES, NO_JAVA, PASSES),
                new Project("no shared test", 1, PASSES, PASSES, NO_FILE, NO_FILE));
        projects.parallelStream().forEach(RunScriptTest::run);
        for (Project project : projects) {
            DUE.is(".ci/run, " + project.words + ": exit code", project.done.exitCode(), project.due);
            DUE.is(".ci/run, " + project.words + ": says that all passed",
                    project.done.output().contains("all tests passed"), project.due == 0);
        }
        everyTestRan(projects.get(0).done.output());
        DUE.end();
    }

    private static void everyTestRan(String output) {
        for (String name : List.of("ATest", "BTest", "C", "D")) {
            DUE.is(".ci/run runs " + name, output.contains("ran " + name + " -1"), true);
        }
    }

    private static void run(Project project) {
        try {
            Path folder = Files.createTempDirectory("project");
            try {
                Path main = folder.resolve("main");
                write(main, "src/main/java", "DraughtWebs",
                        "public final class DraughtWebs { public static final int NONE = -1; }");
                write(main, "src/test/java", "ATest", project.tests[0]);
                write(main, "src/test/java", "BTest", project.tests[1]);
                write(folder, "shared/tests", "C", project.tests[2]);
                write(folder, "shared/tests", "D", project.tests[3]);
                Files.createDirectories(main.resolve(".ci"));
                Files.copy(Path.of(".ci/run"), main.resolve(".ci/run"), StandardCopyOption.COPY_ATTRIBUTES);
                project.done = Shell.run(main, ".ci/run");
            } finally {
                Shell.clear(folder);
            }
        } catch (IOException e) {
            throw new UncheckedIOException(e);
        } catch (InterruptedException e) {
            throw new IllegalStateException(e);
        }
    }

    private static void write(Path in, String folder, String name, String text) throws IOException {
        Files.createDirectories(in.resolve(folder));
        if (!text.equals(NO_FILE)) {
            Files.writeString(in.resolve(folder).resolve(name + ".java"), text.replace("%s", name));
        }
    }
}
