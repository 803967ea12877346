import java.io.File;
import java.io.IOException;
import java.lang.reflect.Method;
import java.lang.reflect.Modifier;
import java.net.URL;
import java.net.URLClassLoader;
import java.nio.file.Files;
import java.nio.file.Path;
import java.util.ArrayList;
import java.util.Collections;
import java.util.HashSet;
import java.util.List;
import java.util.Set;
import java.util.regex.Matcher;
import java.util.regex.Pattern;
import java.util.stream.Stream;
import javax.tools.ToolProvider;

/**
 * README.md: its examples are compiled and run, and answer what stands behind each call; what it quotes
 * stands in the document; its commands for tests run. They run on a copy, so that none changes the project.
 */
public final class ReadmeTest extends Checks {
    private static final Path README = Path.of("README.md"), TESTS = Path.of("src/test/java"), ALL_TESTS = Path.of(".ci/run");
    /** Whatever README.md shows, so much of it must be found, or nothing would be looked at. */
    private static final int FEWEST_EXAMPLES = 2, FEWEST_ANSWERS = 40, FEWEST_QUOTES = 10, FEWEST_COMMANDS = 5;

    private static String readme;

    private static List<String> blocks(String language) {
        List<String> blocks = new ArrayList<>();
        Matcher block = Pattern.compile("(?s)```" + language + "\n(.*?)```").matcher(readme);
        while (block.find()) {
            blocks.add(block.group(1));
        }
        return blocks;
    }

    private static String onOneLine(String text) {
        return text.replaceAll("\\s+", " ");
    }

    // ---- examples

    private static int answersShown = 0;

    /** A call with what it answers behind it becomes one that tells if it answers otherwise. */
    private static String lineOf(String line) {
        Matcher call = Pattern.compile("(tea\\..*\\));\\s+// ([^:\\s]+)(:.*|,|)").matcher(line);
        if (call.matches()) {
            answersShown++;
            return "due(\"" + call.group(1).replace("\"", "\\\"") + "\", " + call.group(1) + ", " + call.group(2) + ");\n";
        }
        if (line.startsWith("tea.")) {
            wrong("no answer stands behind " + line);
        }
        return line + "\n";
    }

    private static String programOf(String name, String example) {
        StringBuilder program = new StringBuilder("public final class " + name + " {\n"
            + "    private static final java.util.List<String> wrong = new java.util.ArrayList<>();\n"
            + "    private static void due(String call, long got, long want) {\n"
            + "        if (got != want) { wrong.add(call + \" answered \" + got + \", README.md says \" + want); }\n"
            + "    }\n"
            + "    public static java.util.List<String> wrong() {\n");
        for (String line : example.split("\n")) {
            program.append(lineOf(line));
        }
        return program.append("        return wrong;\n    }\n}\n").toString();
    }

    private static void runs(String name, String example, Path folder) throws IOException, ReflectiveOperationException {
        about("README.md, " + name);
        Path file = Files.writeString(folder.resolve(name + ".java"), programOf(name, example));
        int compiled = ToolProvider.getSystemJavaCompiler().run(null, null, null, "-cp",
            System.getProperty("java.class.path"), "-d", folder.toString(), file.toString());
        due("compiling it", compiled, 0);
        if (compiled != 0) {
            return;
        }
        try (URLClassLoader loader = new URLClassLoader(new URL[] {folder.toUri().toURL()})) {
            for (Object said : (List<?>) loader.loadClass(name).getMethod("wrong").invoke(null)) {
                wrong(said.toString());
            }
        }
    }

    private static void examples(Path folder) throws IOException, ReflectiveOperationException {
        List<String> examples = blocks("java");
        for (int i = 0; i < examples.size(); i++) {
            runs("Example" + (i + 1), examples.get(i), folder);
        }
        about("README.md");
        due("two examples or more", examples.size() >= FEWEST_EXAMPLES ? 1 : 0, 1);
        due("many answers", answersShown >= FEWEST_ANSWERS ? 1 : 0, 1);
    }

    // ---- words

    /** Each call as the document promises it, and no other. */
    private static void calls(String document) {
        about("README.md, the calls");
        Set<String> names = new HashSet<>();
        Matcher promise = Pattern.compile("(?m)^`\\w+ (\\w+)\\((.*)\\)`: (.*)$").matcher(document);
        while (promise.find()) {
            String numbers = promise.group(2).replaceAll("\\w+ (\\w+)", "$1");
            String row = "| `" + promise.group(1) + "(" + numbers + ")` | " + promise.group(3) + " |\n";
            names.add(promise.group(1));
            due("it says " + row, readme.contains(row) ? 1 : 0, 1);
        }
        Set<String> face = new HashSet<>();
        for (Method method : LeavesObject.class.getDeclaredMethods()) {
            if (Modifier.isPublic(method.getModifiers())) {
                face.add(method.getName());
            }
        }
        due("all calls are promised", names.equals(face) ? 1 : 0, 1);
    }

    private static void answers() {
        about("README.md, what the answers mean");
        String[] shown = {"`NONE` (" + LeavesObject.NONE + ")", "`BAD` (" + LeavesObject.BAD + ")",
            "`STATE` (" + LeavesObject.STATE + ")", "`FULL` (" + LeavesObject.FULL + ")", "`NO` (" + LeavesObject.NO + ")",
            "NOTHING (" + NOTHING + ")", "CAST (" + CAST + ")", "PLACE (" + PLACE + ")", "SIZE (" + SIZE + ")", NOT_SO + ""};
        for (String answer : shown) {
            due("it says what " + answer + " means", readme.contains("| " + answer + " | ") ? 1 : 0, 1);
        }
    }

    /** What stands between quotation marks (outside of examples) are the document's words. */
    private static void quotes(String document) {
        about("README.md, what it quotes");
        String words = onOneLine(readme.replaceAll("(?s)```.*?```", ""));
        String said = onOneLine(document).replace("`", "");
        Matcher quote = Pattern.compile("\"([^\"]+)\"").matcher(words);
        int many = 0;
        while (quote.find()) {
            many++;
            due("the document says " + quote.group(), said.contains(quote.group(1)) ? 1 : 0, 1);
        }
        due("many quotes", many >= FEWEST_QUOTES ? 1 : 0, 1);
    }

    private static void tests() throws IOException {
        about("README.md, its tests");
        try (Stream<Path> files = Files.list(TESTS)) {
            for (Path file : files.toList()) {
                String name = file.getFileName().toString().replace(".java", "");
                due("it names " + name, readme.contains("`" + name + "`") ? 1 : 0, 1);
            }
        }
        Matcher named = Pattern.compile("`(\\w+Test)`").matcher(readme);
        while (named.find()) {
            due("there is a " + named.group(1), Files.exists(TESTS.resolve(named.group(1) + ".java")) ? 1 : 0, 1);
        }
    }

    // ---- commands

    private static void copy(Path from, Path to) throws IOException {
        try (Stream<Path> files = Files.walk(from)) {
            for (Path file : files.toList()) {
                Path target = to.resolve(from.relativize(file).toString());
                if (Files.isDirectory(file)) {
                    Files.createDirectories(target);
                } else {
                    Files.copy(file, target);
                }
            }
        }
    }

    private static void runsWell(String command, Path folder) throws IOException, InterruptedException {
        Path said = folder.resolve("said.txt");
        Process process = new ProcessBuilder("sh", "-c", command).directory(folder.toFile()).redirectErrorStream(true)
            .redirectOutput(said.toFile()).start();
        int exit = process.waitFor();
        due(command, exit, 0);
        if (exit != 0) {
            System.out.println(Files.readString(said));
        }
    }

    /** That .ci/run runs is seen by who runs this; so it is not run from here. */
    private static void commands(Path folder) throws IOException, InterruptedException {
        about("README.md, its commands");
        Path project = folder.resolve("project");
        copy(Path.of("src"), project.resolve("src"));
        copy(Path.of("../shared"), folder.resolve("shared"));
        int many = 0;
        for (String block : blocks("sh")) {
            for (String command : block.split("\n")) {
                many++;
                if (!command.equals(ALL_TESTS.toString())) {
                    runsWell(command, project);
                }
            }
        }
        due("many commands", many >= FEWEST_COMMANDS ? 1 : 0, 1);
        due("the first is " + ALL_TESTS, blocks("sh").get(0).equals(ALL_TESTS + "\n") ? 1 : 0, 1);
        due("it can be run", Files.isExecutable(ALL_TESTS) ? 1 : 0, 1);
    }

    private static void remove(Path folder) throws IOException {
        List<Path> all = new ArrayList<>();
        try (Stream<Path> files = Files.walk(folder)) {
            files.forEach(all::add);
        }
        Collections.reverse(all);
        for (Path file : all) {
            new File(file.toString()).setWritable(true);
            Files.delete(file);
        }
    }

    public static void main(String[] args) throws Exception {
        readme = Files.readString(README);
        String document = Files.readString(Path.of("../shared/DOC.md"));
        Path folder = Files.createTempDirectory("leaves-readme");
        try {
            examples(folder);
            calls(document);
            answers();
            quotes(document);
            tests();
            commands(folder);
        } finally {
            remove(folder);
        }
        end("readme");
    }
}
