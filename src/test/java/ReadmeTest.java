import java.io.IOException;
import java.lang.reflect.Method;
import java.lang.reflect.Modifier;
import java.net.URL;
import java.net.URLClassLoader;
import java.nio.file.Files;
import java.nio.file.Path;
import java.util.ArrayList;
import java.util.List;
import java.util.Set;
import java.util.TreeSet;
import java.util.function.Supplier;
import java.util.regex.Matcher;
import java.util.regex.Pattern;
import java.util.stream.Collectors;
import java.util.stream.Stream;
import javax.tools.ToolProvider;

/** What README.md shows is so: every call answers as it tells there, every command works in a copy of the project. */
public final class ReadmeTest {
    private static final Due DUE = new Due("ReadmeTest");
    private static final Path README = Path.of("README.md");
    private static final Pattern BLOCK = Pattern.compile("^```(\\w*)\n(.*?)^```$", Pattern.MULTILINE | Pattern.DOTALL);
    private static final Pattern ANSWERED = Pattern.compile("((?:x\\.|tell\\().*\\)); +// (-?\\d+|NONE|true|false): \\S.*");
    private static final Pattern MADE = Pattern.compile("DraughtWebs x = new DraughtWebs\\(\\);");
    private static final Pattern CALLED = Pattern.compile("x\\.(\\w+)\\(");
    private static final Pattern NAMED_FILE = Pattern.compile("`([\\w.]*[./][\\w./]+)`");
    private static final Pattern NAMED_TEST = Pattern.compile("^\\| (\\w+Test) \\|", Pattern.MULTILINE);

    private ReadmeTest() {
    }

    public static void main(String[] args) throws Exception {
        String page = Files.readString(README);
        callsAnswerAsTold(blocks(page, "java"));
        everyCallIsShown(blocks(page, "java"));
        everyTestIsNamed(page);
        filesAreThere(page);
        testsAreRunBySh(blocks(page, "sh"));
        DUE.end();
    }

    private static List<String> blocks(String page, String language) {
        List<String> found = new ArrayList<>();
        Matcher block = BLOCK.matcher(page);
        while (block.find()) {
            DUE.is("README.md, kind of block: " + block.group(1), Set.of("java", "sh").contains(block.group(1)), true);
            if (block.group(1).equals(language)) {
                found.add(block.group(2));
            }
        }
        DUE.is("README.md has blocks of " + language, found.isEmpty(), false);
        return found;
    }

    private static void callsAnswerAsTold(List<String> blocks) throws Exception {
        Path folder = Files.createTempDirectory("readme");
        try {
            Path source = folder.resolve("ReadmeCalls.java");
            Files.writeString(source, program(blocks));
            int compiled = ToolProvider.getSystemJavaCompiler().run(null, null, null, "-Xlint:all", "-Werror",
                    "-cp", System.getProperty("java.class.path"), "-d", folder.toString(), source.toString());
            DUE.is("README.md, its code compiles", compiled, 0);
            if (compiled == 0) {
                askAll(folder);
            }
        } finally {
            Shell.clear(folder);
        }
    }

    private static void askAll(Path folder) throws Exception {
        try (URLClassLoader loader = new URLClassLoader(new URL[] {folder.toUri().toURL()})) {
            Object calls = loader.loadClass("ReadmeCalls").getConstructor().newInstance();
            for (Object row : (List<?>) ((Supplier<?>) calls).get()) {
                Object[] told = (Object[]) row;
                DUE.is("README.md, " + told[0], (Long) told[1], (Long) told[2]);
            }
        }
    }

    /** A class with the page's functions that gives, of each call, its line, its answer and the one told. */
    private static String program(List<String> blocks) {
        StringBuilder members = new StringBuilder();
        StringBuilder calls = new StringBuilder();
        for (String block : blocks) {
            if (block.startsWith("static ")) {
                members.append(block);
            } else {
                calls.append("{\n").append(statements(block)).append("}\n");
            }
        }
        return "import java.util.ArrayList;\nimport java.util.List;\nimport java.util.function.Supplier;\n"
                + "public final class ReadmeCalls implements Supplier<List<Object[]>> {\n"
                + "public ReadmeCalls() { }\n" + members
                + "static Object[] told(String call, long got, long want) { return new Object[] {call, got, want}; }\n"
                + "static Object[] told(String call, boolean got, boolean want) {\n"
                + "return told(call, got ? 1 : 0, want ? 1 : 0); }\n"
                + "@Override public List<Object[]> get() {\nList<Object[]> all = new ArrayList<>();\n"
                + calls + "return all;\n}\n}\n";
    }

    private static String statements(String block) {
        StringBuilder all = new StringBuilder();
        for (String line : block.split("\n")) {
            Matcher answered = ANSWERED.matcher(line);
            if (MADE.matcher(line).matches()) {
                all.append(line).append('\n');
            } else if (answered.matches()) {
                String words = line.replace("\\", "\\\\").replace("\"", "\\\"");
                String answer = answered.group(2).equals("NONE") ? "DraughtWebs.NONE" : answered.group(2);
                all.append("all.add(told(\"").append(words).append("\", ").append(answered.group(1)).append(", ")
                        .append(answer).append("));\n");
            } else {
                DUE.is("README.md tells the answer of: " + line, false, true);
            }
        }
        return all.toString();
    }

    private static void everyCallIsShown(List<String> blocks) {
        Set<String> shown = new TreeSet<>();
        for (String block : blocks) {
            Matcher called = CALLED.matcher(block);
            while (called.find()) {
                shown.add(called.group(1));
            }
        }
        for (Method method : DraughtWebs.class.getDeclaredMethods()) {
            if (Modifier.isPublic(method.getModifiers())) {
                DUE.is("README.md shows " + method.getName(), shown.contains(method.getName()), true);
            }
        }
    }

    private static void everyTestIsNamed(String page) throws IOException {
        Set<String> named = new TreeSet<>();
        Matcher test = NAMED_TEST.matcher(page);
        while (test.find()) {
            named.add(test.group(1));
        }
        try (Stream<Path> files = Files.list(Path.of("src/test/java"))) {
            Set<String> there = files.map(file -> file.getFileName().toString().replace(".java", ""))
                    .filter(name -> name.endsWith("Test")).collect(Collectors.toCollection(TreeSet::new));
            DUE.is("README.md names the tests " + named + ", there are " + there, named.equals(there), true);
        }
    }

    private static void filesAreThere(String page) {
        Matcher file = NAMED_FILE.matcher(page);
        while (file.find()) {
            DUE.is("README.md names " + file.group(1), Files.exists(Path.of(file.group(1))), true);
        }
    }

    /** In a copy, with the shared folder beside it, as a new checkout has it. */
    private static void testsAreRunBySh(List<String> blocks) throws IOException, InterruptedException {
        DUE.is("README.md, the first command is .ci/run", blocks.get(0).equals(".ci/run\n"), true);
        if (Shell.isInner()) {
            return;
        }
        Path folder = Files.createTempDirectory("checkout");
        try {
            Path copy = folder.resolve("main");
            Shell.copyProject(Path.of("."), copy);
            Files.createSymbolicLink(folder.resolve("shared"), Path.of("../shared").toRealPath());
            for (String block : blocks) {
                Shell done = Shell.run(copy, block);
                DUE.is("README.md, the exit code of " + block.replace("\n", "; "), done.exitCode(), 0);
                if (done.exitCode() != 0) {
                    System.out.println(done.output());
                }
            }
        } finally {
            Shell.clear(folder);
        }
    }
}
