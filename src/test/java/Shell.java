import java.io.IOException;
import java.io.UncheckedIOException;
import java.nio.file.Files;
import java.nio.file.Path;
import java.nio.file.StandardCopyOption;
import java.util.Comparator;
import java.util.List;
import java.util.concurrent.TimeUnit;
import java.util.stream.Collectors;
import java.util.stream.Stream;

/** Folders for a while, and commands of a shell in them. */
final class Shell {
    /** Set for commands that a test starts, so that .ci/run started by its own test does not start itself again. */
    static final String INNER = "DRAUGHTWEBS_INNER_RUN";
    private static final long MOST_MINUTES = 10;

    private final int exitCode;
    private final String output;

    private Shell(int exitCode, String output) {
        this.exitCode = exitCode;
        this.output = output;
    }

    int exitCode() {
        return exitCode;
    }

    String output() {
        return output;
    }

    static boolean isInner() {
        return System.getenv(INNER) != null;
    }

    /** Runs commands as someone would who types them in that folder; -1 is the exit code of what does not end. */
    static Shell run(Path folder, String commands) throws IOException, InterruptedException {
        Path heard = Files.createTempFile("draughtwebs", ".txt");
        try {
            ProcessBuilder builder = new ProcessBuilder("sh", "-e", "-c", commands);
            builder.environment().put(INNER, "1");
            Process process = builder.directory(folder.toFile()).redirectErrorStream(true)
                    .redirectOutput(heard.toFile()).start();
            process.getOutputStream().close();
            boolean ended = process.waitFor(MOST_MINUTES, TimeUnit.MINUTES);
            if (!ended) {
                process.destroyForcibly();
            }
            return new Shell(ended ? process.exitValue() : -1, Files.readString(heard));
        } finally {
            Files.delete(heard);
        }
    }

    /** All files but those of git and those that were made, as executable as they are. */
    static void copyProject(Path from, Path to) throws IOException {
        for (Path file : files(from)) {
            String name = from.relativize(file).toString();
            if (name.startsWith(".git/") || name.startsWith("out/")) {
                continue;
            }
            Path copy = to.resolve(name);
            Files.createDirectories(copy.getParent());
            Files.copy(file, copy, StandardCopyOption.COPY_ATTRIBUTES);
        }
    }

    private static List<Path> files(Path folder) throws IOException {
        try (Stream<Path> all = Files.walk(folder)) {
            return all.filter(Files::isRegularFile).collect(Collectors.toList());
        }
    }

    /** Links are cleared away, not what they lead to. */
    static void clear(Path folder) throws IOException {
        try (Stream<Path> all = Files.walk(folder)) {
            all.sorted(Comparator.reverseOrder()).forEach(Shell::delete);
        }
    }

    private static void delete(Path file) {
        try {
            Files.delete(file);
        } catch (IOException e) {
            throw new UncheckedIOException(e);
        }
    }
}
