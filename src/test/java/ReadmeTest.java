import java.io.IOException;
import java.nio.file.Files;
import java.nio.file.Path;
import java.util.ArrayList;
import java.util.List;
import java.util.regex.Matcher;
import java.util.regex.Pattern;
import java.util.stream.Stream;

/**
 * README.md keeps its word. Under Use: each call that it shows answers what stands behind it, compiled and run as the
 * page says. Under Tests: each line does what it says, the first one runs every test, and fails where one fails.
 * All is done in copies of the project, so that nothing is left in it.
 */
public final class ReadmeTest {
    /** Stands in the environment of the lines that are tried, so that they don't try themselves again. */
    private static final String TRIED = "LEFT_UNDOES_README_TRIED";
    private static final Pattern CALL = Pattern.compile(" *(?:int (\\w+) = )?((?:x\\.\\w+|tell)\\(.*\\)); *// (-?\\d+): \\S.*");
    private static int wrong;

    private static void must(boolean right, String what) {
        if (right) return;
        wrong++;
        System.out.println(what);
    }

    // ---- the page

    private static String chapter(String page, String title) {
        Matcher m = Pattern.compile("(?ms)^## " + title + "$(.*?)(?=^## |\\z)").matcher(page);
        must(m.find(), "README.md has no chapter " + title);
        return m.reset().find() ? m.group(1) : "";
    }

    private static List<String> blocks(String chapter, String language) {
        List<String> blocks = new ArrayList<>();
        Matcher m = Pattern.compile("(?ms)^```" + language + "\n(.*?)^```$").matcher(chapter);
        while (m.find()) blocks.add(m.group(1));
        must(!blocks.isEmpty(), "README.md shows no " + language);
        return blocks;
    }

    private static int calls;

    /** The page's lines as a class: blocks that begin with static stand beside main, all others in it. */
    private static String program(List<String> blocks) {
        StringBuilder beside = new StringBuilder(), main = new StringBuilder();
        for (String block : blocks) {
            if (block.startsWith("static ")) beside.append(block);
            else for (String line : block.split("\n")) main.append(asked(line)).append('\n');
        }
        must(calls > 0, "README.md shows no call");
        return "public final class Yours {\n" + beside + "static int wrong;\n"
            + "static int due(String call, int got, int want) {\n"
            + "if (got != want) { wrong++; System.out.println(call + \" answered \" + got + \", README.md says \" + want); }\n"
            + "return got;\n}\n"
            + "public static void main(String[] args) {\n" + main + "System.exit(wrong == 0 ? 0 : 1);\n}\n}\n";
    }

    private static String asked(String line) {
        Matcher m = CALL.matcher(line);
        if (!m.matches()) {
            must(!line.contains("x.") && !line.contains("tell("), "README.md doesn't say what this answers: " + line);
            return line;
        }
        calls++;
        String name = m.group(2).replace("\"", "'");
        String due = "due(\"" + name + "\", " + m.group(2) + ", " + m.group(3) + ");";
        return m.group(1) == null ? due : "int " + m.group(1) + " = " + due;
    }

    // ---- copies of the project, and what is run in them

    private static void copy(Path from, Path to) throws IOException {
        List<Path> files;
        try (Stream<Path> all = Files.walk(from)) {
            files = all.filter(Files::isRegularFile).toList();
        }
        for (Path file : files) {
            Path at = to.resolve(from.relativize(file).toString());
            Files.createDirectories(at.getParent());
            Files.write(at, Files.readAllBytes(file));
            if (Files.isExecutable(file)) must(at.toFile().setExecutable(true), "can't make " + at + " executable");
        }
    }

    private static void delete(Path of) throws IOException {
        List<Path> all;
        try (Stream<Path> walked = Files.walk(of)) {
            all = new ArrayList<>(walked.toList());
        }
        java.util.Collections.reverse(all);
        for (Path path : all) Files.delete(path);
    }

    /** The project without its tests, and what is shared without those. */
    private static Path bare(Path within) throws IOException {
        Path project = within.resolve("main");
        copy(Path.of(".ci"), project.resolve(".ci"));
        copy(Path.of("src/main"), project.resolve("src/main"));
        Files.write(project.resolve("README.md"), Files.readAllBytes(Path.of("README.md")));
        Files.createDirectories(project.resolve("src/test/java"));
        Files.createDirectories(within.resolve("shared/tests"));
        return project;
    }

    private static Path whole(Path within) throws IOException {
        Path project = bare(within);
        copy(Path.of("src/test"), project.resolve("src/test"));
        copy(Path.of("../shared"), within.resolve("shared"));
        return project;
    }

    private static String said;

    /** The line's exit code; what it says is in said. */
    private static int run(Path project, String line) throws IOException, InterruptedException {
        ProcessBuilder shell = new ProcessBuilder("sh", "-e", "-c", line).directory(project.toFile()).redirectErrorStream(true);
        shell.environment().put(TRIED, "1");
        Process process = shell.start();
        process.getOutputStream().close();
        said = new String(process.getInputStream().readAllBytes());
        return process.waitFor();
    }

    private static void mustRun(Path project, String line) throws IOException, InterruptedException {
        int code = run(project, line);
        must(code == 0, "exit code " + code + " of README.md's " + line + "\n" + said);
    }

    // ---- what the page promises

    private static void use(String chapter, Path within) throws IOException, InterruptedException {
        Path project = bare(within);
        Files.writeString(project.resolve("Yours.java"), program(blocks(chapter, "java")));
        for (String block : blocks(chapter, "sh")) mustRun(project, block);
    }

    private static List<String> lines(String chapter) {
        List<String> lines = new ArrayList<>();
        for (String block : blocks(chapter, "sh")) lines.addAll(List.of(block.split("\n")));
        return lines;
    }

    private static List<String> tests() throws IOException {
        List<String> tests = new ArrayList<>();
        for (String where : List.of("../shared/tests", "src/test/java")) {
            try (Stream<Path> files = Files.list(Path.of(where))) {
                files.map(f -> where + "/" + f.getFileName())
                    .filter(f -> f.endsWith(where.startsWith("src") ? "Test.java" : ".java")).forEach(tests::add);
            }
        }
        return tests;
    }

    private static void each(List<String> lines, Path within) throws IOException, InterruptedException {
        Path project = whole(within);
        for (int k = 0; k < lines.size(); k++) {
            String line = lines.get(k);
            mustRun(project, line);
            int at = line.indexOf("# says: ");
            must(at < 0 || said.contains(line.substring(at + 8)), "this isn't said by README.md's " + line + "\n" + said);
            if (k > 0) continue;
            for (String test : tests()) must(said.contains("passed: " + test + "\n"), "README.md's " + line + " doesn't run " + test);
        }
    }

    private static void probe(Path at, int code) throws IOException {
        String name = at.getFileName().toString().replace(".java", "");
        Files.writeString(at, "public final class " + name + " {\n    public static void main(String[] args) {\n"
            + "        new LeftUndoes();\n        System.exit(" + code + ");\n    }\n}\n");
    }

    /** Of two tests one fails: so must the line, and say which. */
    private static void fails(String line, Path within, int ofShared, int ofProject) throws IOException, InterruptedException {
        Path project = bare(within);
        probe(within.resolve("shared/tests/Shared.java"), ofShared);
        probe(project.resolve("src/test/java/OwnTest.java"), ofProject);
        int code = run(project, line);
        must(code != 0, "a test failed, and README.md's " + line + " didn't\n" + said);
        must(said.contains((ofShared == 0 ? "passed: " : "FAILED: ") + "../shared/tests/Shared.java\n")
            && said.contains((ofProject == 0 ? "passed: " : "FAILED: ") + "src/test/java/OwnTest.java\n"),
            "README.md's " + line + " doesn't say which test failed\n" + said);
    }

    public static void main(String[] args) throws Exception {
        String page = Files.readString(Path.of("README.md"));
        Path within = Files.createTempDirectory("readme");
        try {
            use(chapter(page, "Use"), within.resolve("use"));
            List<String> lines = lines(chapter(page, "Tests"));
            if (System.getenv(TRIED) == null && !lines.isEmpty()) {
                fails(lines.get(0), within.resolve("shared-fails"), 1, 0);
                fails(lines.get(0), within.resolve("own-fails"), 0, 1);
                each(lines, within.resolve("all"));
            }
        } finally {
            delete(within);
        }
        System.out.println(wrong == 0 ? calls + " calls answer what README.md says, its lines do so" : wrong + " things are wrong");
        if (wrong != 0) System.exit(1);
    }
}
