import java.io.File;
import java.io.IOException;
import java.nio.file.Files;
import java.nio.file.Path;
import java.util.ArrayList;
import java.util.List;
import java.util.regex.Matcher;
import java.util.regex.Pattern;
import java.util.stream.Stream;

/** What README.md says is so: its example answers as it says, its commands run, and it names what there is. */
public final class ReadmeTest {
    private static final Pattern BLOCK = Pattern.compile("(?ms)^```(\\w+)\n(.*?)^```$");
    private static final Pattern ANSWERED = Pattern.compile("(?:(\\w+) (\\w+) = )?(town\\..*);\\s*// (-?\\d+|true|false)(?::.*)?");
    private static final String CALLS = "road notice comes learns owes feed law hours tried half gladly halves was byForks plan joined chosen "
        + "whoWas meet built closed history kin bread vote seed keep undo check count";
    private static int wrong = 0;
    private static int answers = 0;
    private static int commands = 0;

    private ReadmeTest() {
    }

    public static void main(String[] args) throws Exception {
        String readme = Files.readString(Path.of("README.md"));
        Path folder = Files.createTempDirectory("readme");
        try {
            runExample(readme, folder);
            runCommands(readme, folder);
            named(readme);
        } finally {
            remove(folder);
        }
        System.out.println(answers + " answers and " + commands + " commands of README.md, " + wrong + " are not as it says");
        if (wrong != 0) {
            System.exit(1);
        }
    }

    private static void refuse(String what) {
        wrong++;
        System.out.println("README.md: " + what);
    }

    private static List<String> blocks(String readme, String language) {
        List<String> found = new ArrayList<>();
        Matcher m = BLOCK.matcher(readme);
        while (m.find()) {
            if (m.group(1).equals(language)) {
                found.add(m.group(2));
            }
        }
        return found;
    }

    // ---------------------------------------------------------------- the example

    private static void runExample(String readme, Path folder) throws Exception {
        StringBuilder helpers = new StringBuilder();
        StringBuilder body = new StringBuilder();
        for (String block : blocks(readme, "java")) {
            if (block.startsWith("static ")) {
                helpers.append(block);
            } else {
                body.append(asked(block));
            }
        }
        if (answers < 20) {
            refuse("only " + answers + " calls of the example have an answer");
        }
        String source = "public final class Example {\n" + helpers
            + "static int wrong = 0;\n"
            + "static void due(String call, Object got, Object want) {\n"
            + "    if (!got.equals(want)) { wrong++; System.out.println(call + \" answered \" + got); }\n"
            + "}\n"
            + "public static void main(String[] args) {\n" + body + "System.exit(wrong);\n}\n}\n";
        Path file = folder.resolve("Example.java");
        Files.writeString(file, source);
        String classes = folder.resolve("example").toString();
        String path = System.getProperty("java.class.path");
        if (run(folder, "javac", "-cp", path(path), "-d", classes, file.toString()) != 0) {
            refuse("the example is not compiled");
        } else if (run(folder, "java", "-cp", classes + File.pathSeparator + path(path), "Example") != 0) {
            refuse("the example does not answer as it says");
        }
    }

    /** The class path as seen from another folder. */
    private static String path(String path) {
        return Path.of(path).toAbsolutePath().toString();
    }

    /** The example's lines, with a question behind each call that has an answer; each call must have one. */
    private static String asked(String block) {
        StringBuilder body = new StringBuilder();
        for (String line : block.split("\n")) {
            Matcher m = ANSWERED.matcher(line);
            if (!m.matches()) {
                if (line.contains("town.")) {
                    refuse("no answer stands behind: " + line);
                }
                body.append(line).append('\n');
                continue;
            }
            answers++;
            String call = m.group(3);
            if (m.group(2) != null) {
                body.append(m.group(1)).append(' ').append(m.group(2)).append(" = ").append(call).append(";\n");
            }
            body.append("due(\"").append(call).append("\", ").append(m.group(2) == null ? call : m.group(2));
            body.append(", ").append(m.group(4)).append(");\n");
        }
        return body.toString();
    }

    // ---------------------------------------------------------------- the commands

    /** In a copy of the project, so that nothing is left behind in it. */
    private static void runCommands(String readme, Path folder) throws Exception {
        Path copy = Files.createDirectory(folder.resolve("main"));
        copy(Path.of("src"), copy.resolve("src"));
        Files.createSymbolicLink(folder.resolve("shared"), Path.of("../shared").toRealPath());
        boolean all = false;
        for (String block : blocks(readme, "sh")) {
            for (String command : block.split("\n")) {
                commands++;
                if (command.equals(".ci/run")) {
                    // It runs this test: that it can be run at all is what is left to see.
                    all = Files.isExecutable(Path.of(command));
                } else if (run(copy, "sh", "-c", command) != 0) {
                    refuse("this command fails: " + command);
                }
            }
        }
        if (!all) {
            refuse("no command that can be run runs all tests");
        }
    }

    private static int run(Path in, String... command) throws Exception {
        Path out = Files.createTempFile("readme", ".txt");
        try {
            Process p = new ProcessBuilder(command).directory(in.toFile()).redirectErrorStream(true).redirectOutput(out.toFile()).start();
            int code = p.waitFor();
            if (code != 0) {
                System.out.print(Files.readString(out));
            }
            return code;
        } finally {
            Files.delete(out);
        }
    }

    // ---------------------------------------------------------------- what it names

    private static void named(String readme) throws IOException {
        try (Stream<Path> tests = Files.list(Path.of("src/test/java"))) {
            tests.map(p -> p.getFileName().toString().replace(".java", "")).filter(n -> !readme.contains("`" + n + "`"))
                .forEach(n -> refuse("does not name " + n));
        }
        String source = Files.readString(Path.of("src/main/java/ForkTown.java"));
        Matcher inside = Pattern.compile("\n    private static final class (\\w+)").matcher(source);
        while (inside.find()) {
            if (!readme.contains("`" + inside.group(1) + "`")) {
                refuse("does not name " + inside.group(1));
            }
        }
        Matcher told = Pattern.compile("`([^`\n]+)`").matcher(readme.replaceAll(BLOCK.pattern(), ""));
        while (told.find()) {
            if (!isThere(told.group(1), source)) {
                refuse("names " + told.group(1) + ", which is not there");
            }
        }
    }

    private static boolean isThere(String name, String source) {
        return Files.exists(Path.of(name)) || Files.exists(Path.of("src/test/java/" + name + ".java"))
            || source.contains("class " + name + " ") || List.of(CALLS.split(" ")).contains(name)
            || name.equals("javac") || name.equals("java");
    }

    // ---------------------------------------------------------------- files

    private static void copy(Path from, Path to) throws IOException {
        try (Stream<Path> files = Files.walk(from)) {
            for (Path p : (Iterable<Path>) files::iterator) {
                Files.copy(p, to.resolve(from.relativize(p).toString()));
            }
        }
    }

    private static void remove(Path folder) throws IOException {
        List<Path> all;
        try (Stream<Path> files = Files.walk(folder)) {
            all = new ArrayList<>(files.toList());
        }
        for (int i = all.size() - 1; i >= 0; i--) {
            Files.delete(all.get(i));
        }
    }
}
