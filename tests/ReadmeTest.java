import java.io.IOException;
import java.nio.file.Files;
import java.nio.file.Path;
import java.util.ArrayList;
import java.util.Comparator;
import java.util.List;
import java.util.regex.MatchResult;
import java.util.regex.Matcher;
import java.util.regex.Pattern;
import java.util.stream.Collectors;
import java.util.stream.Stream;

/**
 * What README.md says holds for what lies in the project: its examples answer as told there, its
 * commands run, its tables name each call and each test, its paths are there. Run from the root.
 */
public final class ReadmeTest {
    private static final Path README = Path.of("README.md");
    private static final Path SOURCE = Path.of("src/main/java/RivetedSisters.java");
    private static final Pattern EXAMPLE = Pattern.compile("(x\\..*); +// = (-?\\d+).*");

    private static int wrong = 0;

    private static void must(boolean so, String what) {
        if (!so) {
            wrong++;
            System.out.println(README + ": " + what);
        }
    }

    private static List<String> blocks(String text, String language) {
        return found("(?s)```" + language + "\n(.*?)```", text);
    }

    /** The first group of each match. */
    private static List<String> found(String pattern, String text) {
        return Pattern.compile(pattern).matcher(text).results().map(m -> m.group(1)).toList();
    }

    /** All examples are one run; each line with an answer is held against it. */
    private static String programOf(String text) {
        StringBuilder code = new StringBuilder("public final class Examples {\n"
            + "    static int wrong = 0;\n"
            + "    static void due(String call, long got, long want) {\n"
            + "        if (got == want) return;\n"
            + "        wrong++;\n"
            + "        System.out.println(call + \" answered \" + got + \", told is \" + want);\n"
            + "    }\n"
            + "    public static void main(String[] args) {\n");
        for (String line : String.join("", blocks(text, "java")).split("\n")) {
            Matcher example = EXAMPLE.matcher(line);
            code.append(!example.matches() ? line : "due(\"" + example.group(1).replace("\"", "'")
                + "\", " + example.group(1) + ", " + example.group(2) + "L);").append('\n');
        }
        return code.append("        System.exit(wrong == 0 ? 0 : 1);\n    }\n}\n").toString();
    }

    private static boolean runs(String command) throws IOException, InterruptedException {
        return new ProcessBuilder("sh", "-e", "-c", command).inheritIO().start().waitFor() == 0;
    }

    private static void examples(String text, Path room) throws Exception {
        must(found("// = (-?\\d)", text).size() > 9, "has examples");
        Path program = room.resolve("Examples.java");
        Files.writeString(program, programOf(text));
        must(runs("javac -encoding UTF-8 -d '" + room + "' '" + program + "' " + SOURCE
            + "\njava -cp '" + room + "' Examples"), "its examples do not answer as told");
    }

    /** But for .ci/run, which runs this test. */
    private static void commands(String text, Path room) throws Exception {
        List<String> commands = blocks(text, "sh");
        must(commands.contains(".ci/run\n"), "tells how all tests are run");
        for (String command : commands) {
            if (!command.equals(".ci/run\n")) {
                must(runs(command.replaceAll("(-d|-cp) out ", "$1 '" + room + "' ")),
                    "does not run: " + command);
            }
        }
        must(Files.isExecutable(Path.of(".ci/run")), ".ci/run can't be run");
    }

    /** Each call in the document's order with its promise; promise 1 is the constructor. */
    private static void calls(String text) throws IOException {
        List<String> due = new ArrayList<>();
        Pattern method = Pattern.compile("    public (?:int|long) (\\w+)\\((.*)\\) \\{");
        List<MatchResult> methods = method.matcher(Files.readString(SOURCE)).results().toList();
        for (MatchResult one : methods) {
            String names = one.group(2).replaceAll("int (\\w+)", "$1");
            due.add("`" + one.group(1) + "(" + names + ")` | " + (due.size() + 2));
        }
        List<String> told = found("(?m)^\\| (`\\w+\\([\\w, ]*\\)` \\| \\d+) \\| \\S", text);
        must(told.equals(due), "names the calls " + told + ", there are " + due);
    }

    private static void tests(String text) throws IOException {
        List<String> told = found("(?m)^\\| `(\\w+Test)` \\| ", text);
        try (Stream<Path> files = Files.list(Path.of("tests"))) {
            List<String> due = files.map(path -> path.getFileName().toString())
                .filter(name -> name.endsWith(".java")).map(name -> name.replace(".java", ""))
                .sorted().toList();
            must(told.stream().sorted().toList().equals(due),
                "names the tests " + told + ", there are " + due);
        }
    }

    private static void paths(String text) {
        for (String path : found("`((?:\\.\\./|\\.ci|src/|tests)[\\w./]*)`", text)) {
            must(Files.exists(Path.of(path)), "there is no " + path);
        }
    }

    private static void clear(Path room) throws IOException {
        try (Stream<Path> files = Files.walk(room)) {
            for (Path path : files.sorted(Comparator.reverseOrder()).collect(Collectors.toList())) {
                Files.delete(path);
            }
        }
    }

    public static void main(String[] args) throws Exception {
        String text = Files.readString(README);
        Path room = Files.createTempDirectory("readme");
        try {
            examples(text, room);
            commands(text, room);
        } finally {
            clear(room);
        }
        calls(text);
        tests(text);
        paths(text);
        System.out.println(wrong == 0 ? "README.md is as due" : wrong + " are not as due");
        if (wrong != 0) {
            System.exit(1);
        }
    }
}
