import java.io.IOException;
import java.lang.reflect.Method;
import java.lang.reflect.Modifier;
import java.net.URL;
import java.net.URLClassLoader;
import java.nio.charset.StandardCharsets;
import java.nio.file.Files;
import java.nio.file.Path;
import java.util.ArrayList;
import java.util.List;
import java.util.regex.Matcher;
import java.util.regex.Pattern;
import javax.tools.JavaCompiler;
import javax.tools.ToolProvider;

/**
 * What README.md shows: its blocks of Java are compiled as one program, each call that has a comment must answer
 * what the comment tells, and its commands for the tests must run.
 */
public final class ReadmeTest {
    private static final Path BUILD = Path.of("build/readme");

    // A call, the variable that it fills, if any, and the answer in the comment behind it.
    private static final Pattern ANSWERED = Pattern.compile(
        "(?:\\w+ (\\w+) = )?(.*);\\s+// (throws \\w+|true|false|-?\\d+(?:\\.\\d+)?|\"[^\"]*\")(?:: .*)?");

    public static void main(String[] args) throws Exception {
        Check.at("README.md");
        List<String> lines = Files.readAllLines(Path.of("README.md"), StandardCharsets.UTF_8);
        List<String> java = blocks(lines, "```java"), commands = blocks(lines, "```sh");
        everyCallIsShown(String.join("\n", java));
        int answers = program(java);
        commands(commands);
        Check.finish("ReadmeTest, " + answers + " answers and " + commands.size() + " commands");
    }

    private static List<String> blocks(List<String> lines, String fence) {
        List<String> blocks = new ArrayList<>();
        StringBuilder block = null;
        for (String line : lines) {
            if (block == null && line.equals(fence)) {
                block = new StringBuilder();
            } else if (block != null && line.equals("```")) {
                blocks.add(block.toString());
                block = null;
            } else if (block != null) {
                block.append(line).append('\n');
            }
        }
        return blocks;
    }

    private static void everyCallIsShown(String code) {
        for (Method m : MemoryCourt.class.getDeclaredMethods()) {
            if (Modifier.isPublic(m.getModifiers())) {
                Check.equal(m.getName() + " is shown: " + code.contains("court." + m.getName() + "("), m.getName() + " is shown: true");
            }
        }
    }

    // ---- the program

    /** Compiles and runs the blocks and returns how many answers they tell. */
    private static int program(List<String> blocks) throws Exception {
        StringBuilder members = new StringBuilder(), statements = new StringBuilder();
        List<String> due = new ArrayList<>();
        for (String block : blocks) {
            if (block.startsWith("static ")) {
                members.append(block);
            } else {
                for (String line : block.split("\n")) {
                    statements.append(statement(line, due)).append('\n');
                }
            }
        }
        String text = "import java.util.*;\n\npublic final class Readme {\n" + members
            + "public static void run(List<String> answers) {\n" + statements + "}\n}\n";
        List<String> answers = new ArrayList<>();
        if (compiles(text)) {
            try (URLClassLoader loader = new URLClassLoader(new URL[] {BUILD.toUri().toURL()})) {
                loader.loadClass("Readme").getMethod("run", List.class).invoke(null, answers);
            }
        }
        Check.equal(answers.size(), due.size());
        for (int i = 0; i < Math.min(answers.size(), due.size()); i++) {
            Check.equal(answers.get(i), due.get(i));
        }
        return answers.size();
    }

    /** A line of a block, with its answer added to a list if a comment tells which one is due. */
    private static String statement(String line, List<String> due) {
        if (!line.contains("//")) {
            return line;
        }
        Matcher m = ANSWERED.matcher(line);
        if (!m.matches()) {
            Check.equal("no answer in " + line, "an answer");
            return line;
        }
        String shown = m.group(2), answer = m.group(3);
        due.add(shown + " -> " + answer.replace("\"", ""));
        String told = "\"" + shown.replace("\\", "\\\\").replace("\"", "\\\"") + " -> \" + ";
        if (answer.startsWith("throws ")) {
            return "try { " + shown + "; answers.add(" + told + "\"nothing\"); } catch (RuntimeException e) { answers.add("
                + told + "\"throws \" + e.getClass().getSimpleName()); }";
        }
        if (m.group(1) != null) {
            return line + "\nanswers.add(" + told + m.group(1) + ");";
        }
        return "answers.add(" + told + shown + ");";
    }

    private static boolean compiles(String text) throws IOException {
        JavaCompiler compiler = ToolProvider.getSystemJavaCompiler();
        if (compiler == null) {
            Check.equal("no compiler", "a JDK");
            return false;
        }
        Files.createDirectories(BUILD);
        Path file = BUILD.resolve("Readme.java");
        Files.writeString(file, text, StandardCharsets.UTF_8);
        int exit = compiler.run(null, null, null, "--release", "17", "-cp", System.getProperty("java.class.path"), "-d", BUILD.toString(),
            file.toString());
        Check.equal("the blocks of Java compile: " + (exit == 0), "the blocks of Java compile: true");
        return exit == 0;
    }

    // ---- the commands

    private static void commands(List<String> blocks) throws Exception {
        Check.equal(blocks.size(), 2);
        for (String block : blocks) {
            if (block.equals(".ci/run\n")) {
                // It runs this test, so that this test cannot run it.
                Check.equal(Files.isExecutable(Path.of(".ci/run")), true);
            } else {
                Process process = new ProcessBuilder("sh", "-e", "-c", block).inheritIO().start();
                Check.equal(block + process.waitFor(), block + 0);
            }
        }
    }
}
