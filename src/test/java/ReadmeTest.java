import java.net.URL;
import java.net.URLClassLoader;
import java.nio.file.Files;
import java.nio.file.Path;
import java.util.ArrayList;
import java.util.List;
import java.util.Set;
import java.util.TreeSet;
import java.util.regex.Matcher;
import java.util.regex.Pattern;
import java.util.stream.Stream;
import javax.tools.ToolProvider;

/**
 * README.md says what is so: its example answers what its comments tell, and the commands that it
 * names are those of .ci/run. The first argument is the project's folder.
 */
public final class ReadmeTest {
    private static final String SHARED_TESTS = "../shared/tests";
    private static final String OWN_TESTS = "src/test/java";

    private static int wrong;
    private static int answers;

    private static void hold(boolean fine, String what) {
        if (!fine) {
            wrong++;
            System.out.println("broken: " + what);
        }
    }

    public static void due(String call, int got, int want) {
        answers++;
        hold(got == want, call + " answered " + got + ", README.md says " + want);
    }

    public static void main(String[] args) throws Exception {
        Path project = Path.of(args.length > 0 ? args[0] : ".");
        String readme = Files.readString(project.resolve("README.md"));
        exampleAnswers(blocks(readme, "java"));
        commands(project, blocks(readme, "sh"), Files.readString(project.resolve(".ci/run")));
        System.out.println(wrong == 0 ? "README.md says what is so" : wrong + " sayings of README.md are wrong");
        if (wrong != 0) {
            System.exit(1);
        }
    }

    private static List<String> blocks(String page, String language) {
        List<String> found = new ArrayList<>();
        Matcher block = Pattern.compile("(?ms)^```" + language + "\n(.*?)^```$").matcher(page);
        while (block.find()) {
            found.add(block.group(1));
        }
        return found;
    }

    // ---- the example

    /** A block that begins with "static" is a method of the example, any other its next lines. */
    private static void exampleAnswers(List<String> blocks) throws Exception {
        StringBuilder methods = new StringBuilder();
        StringBuilder lines = new StringBuilder();
        int comments = 0;
        for (String block : blocks) {
            if (block.startsWith("static ")) {
                methods.append(block);
                continue;
            }
            for (String line : block.split("\n")) {
                lines.append(withCheck(line)).append('\n');
                comments += line.contains("// ") ? 1 : 0;
            }
        }
        runExample("public final class ReadmeExample {\n" + methods
                + "public static void main(String[] args) {\n" + lines + "}\n}\n");
        hold(answers > 0 && answers == comments,
                "of " + comments + " comments in the example " + answers + " begin with an answer");
    }

    private static String withCheck(String line) {
        Matcher call = Pattern.compile("(.*\\));\\s*// (-?\\d+|[A-Z]+(?:_[A-Z]+)?)\\b.*").matcher(line);
        if (!call.matches()) {
            return line;
        }
        String words = call.group(1).replace("\\", "\\\\").replace("\"", "\\\"");
        String want = call.group(2).matches("[A-Z].*") ? "OpticalJukebox." + call.group(2) : call.group(2);
        return "ReadmeTest.due(\"" + words + "\", " + call.group(1) + ", " + want + ");";
    }

    private static void runExample(String source) throws Exception {
        Path folder = Files.createTempDirectory("readme");
        Path file = folder.resolve("ReadmeExample.java");
        Path compiled = folder.resolve("ReadmeExample.class");
        try {
            Files.writeString(file, source);
            int refused = ToolProvider.getSystemJavaCompiler().run(null, null, null,
                    "-cp", System.getProperty("java.class.path"), "-d", folder.toString(), file.toString());
            hold(refused == 0, "the example of README.md can be compiled");
            if (refused == 0) {
                URL[] place = {folder.toUri().toURL()};
                try (URLClassLoader loader = new URLClassLoader(place, ReadmeTest.class.getClassLoader())) {
                    loader.loadClass("ReadmeExample").getMethod("main", String[].class)
                            .invoke(null, (Object) new String[0]);
                }
            }
        } finally {
            Files.deleteIfExists(compiled);
            Files.deleteIfExists(file);
            Files.deleteIfExists(folder);
        }
    }

    // ---- the commands

    private static void commands(Path project, List<String> blocks, String script) throws Exception {
        List<String> named = commandsIn(String.join("", blocks));
        List<String> patterns = commandsIn(script);
        hold(patterns.size() == 2, ".ci/run has a command that compiles a test and one that runs it");
        Set<String> due = new TreeSet<>();
        for (String name : namesOfTests(project.resolve(OWN_TESTS))) {
            due.addAll(commandsFor(patterns, OWN_TESTS, name));
        }
        Set<String> dueForShared = new TreeSet<>();
        for (String name : sharedNames(named)) {
            dueForShared.addAll(commandsFor(patterns, SHARED_TESTS, name));
        }
        hold(!dueForShared.isEmpty(), "README.md names the commands for a test of " + SHARED_TESTS);
        due.addAll(dueForShared);
        for (String command : due) {
            hold(named.contains(command), "README.md lacks what .ci/run runs: " + command);
        }
        for (String command : named) {
            hold(due.contains(command), ".ci/run does not run what README.md names: " + command);
        }
    }

    /** The lines that call javac or java, without quotes and without what follows if they fail. */
    private static List<String> commandsIn(String lines) {
        List<String> found = new ArrayList<>();
        for (String line : lines.split("\n")) {
            String command = line.trim().replaceAll(" \\|\\| .*", "").replace("\"", "");
            if (command.startsWith("javac ") || command.startsWith("java ")) {
                found.add(command);
            }
        }
        return found;
    }

    private static List<String> commandsFor(List<String> patterns, String folder, String name) {
        List<String> made = new ArrayList<>();
        for (String pattern : patterns) {
            made.add(pattern.replace("$folder", folder).replace("$name", name));
        }
        return made;
    }

    private static List<String> namesOfTests(Path folder) throws Exception {
        try (Stream<Path> files = Files.list(folder)) {
            return files.map(file -> file.getFileName().toString()).filter(file -> file.endsWith("Test.java"))
                    .map(file -> file.replace(".java", "")).sorted().toList();
        }
    }

    private static Set<String> sharedNames(List<String> commands) {
        Set<String> names = new TreeSet<>();
        for (String command : commands) {
            Matcher test = Pattern.compile(Pattern.quote(SHARED_TESTS) + "/(\\w+)\\.java").matcher(command);
            while (test.find()) {
                names.add(test.group(1));
            }
        }
        return names;
    }
}
