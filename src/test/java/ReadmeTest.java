import java.io.File;
import java.nio.charset.StandardCharsets;
import java.nio.file.Files;
import java.nio.file.Path;
import java.util.ArrayList;
import java.util.List;
import java.util.regex.Matcher;
import java.util.regex.Pattern;

/** What README.md shows holds: its examples are compiled and run as they stand there, and so are its commands. */
public final class ReadmeTest {
    /** A call of an example with its answer and a few words behind it. */
    private static final Pattern ANSWERED = Pattern.compile(" *(coast\\..*); +// (-?\\d+): .+");
    private static final String EXAMPLE = "ReadmeExample";

    private ReadmeTest() {
    }

    public static void main(String[] args) throws Exception {
        String readme = Files.readString(Path.of("README.md"), StandardCharsets.UTF_8);
        runExample(blocks(readme, "java"));
        runCommands(blocks(readme, "sh"));
        Check.end();
    }

    private static List<String> blocks(String readme, String language) {
        List<String> found = new ArrayList<>();
        Matcher block = Pattern.compile("(?s)```" + language + "\n(.*?)```").matcher(readme);
        while (block.find()) {
            found.add(block.group(1));
        }
        return found;
    }

    /** The blocks go on from one another, with the same coast, so they are one program. */
    private static void runExample(List<String> blocks) throws Exception {
        StringBuilder program = new StringBuilder("public final class " + EXAMPLE + " {\n");
        program.append("public static void main(String[] args) {\n");
        int answers = 0;
        for (String line : String.join("", blocks).split("\n")) {
            Matcher answered = ANSWERED.matcher(line);
            if (answered.matches()) {
                answers++;
                String call = answered.group(1);
                program.append("Check.due(\"README: ").append(call.replace("\"", "\\\"")).append("\", ");
                program.append(call).append(", ").append(answered.group(2)).append(");\n");
            } else {
                program.append(line).append('\n');
            }
        }
        program.append("Check.end();\n}\n}\n");
        Check.that("README's examples tell answers", answers > 30);
        runProgram(program.toString());
    }

    private static void runProgram(String program) throws Exception {
        Path folder = Files.createTempDirectory("readme");
        Path file = folder.resolve(EXAMPLE + ".java");
        Files.writeString(file, program, StandardCharsets.UTF_8);
        String classes = System.getProperty("java.class.path") + File.pathSeparator + folder;
        int code = codeOf("javac", "-cp", classes, "-d", folder.toString(), file.toString());
        Check.due("README's examples are compiled", code, 0);
        Check.due("README's examples answer what they tell", codeOf("java", "-cp", classes, EXAMPLE), 0);
    }

    private static int codeOf(String... command) throws Exception {
        return new ProcessBuilder(command).inheritIO().start().waitFor();
    }

    /** But for .ci/run, which runs this test. */
    private static void runCommands(List<String> blocks) throws Exception {
        boolean wholeRun = false;
        int others = 0;
        for (String commands : blocks) {
            if (commands.contains(".ci/run")) {
                wholeRun = true;
                Check.that("the script of " + commands + " is there", Files.isExecutable(Path.of(".ci/run")));
                continue;
            }
            others++;
            Check.due("README's commands\n" + commands, codeOf("bash", "-e", "-c", commands), 0);
        }
        Check.that("README tells how .ci/run is run", wholeRun);
        Check.due("README tells how single tests are run", others, 3);
    }
}
