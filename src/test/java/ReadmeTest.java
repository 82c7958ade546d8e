import java.io.IOException;
import java.nio.file.Files;
import java.nio.file.Path;
import java.util.ArrayList;
import java.util.Comparator;
import java.util.List;
import java.util.regex.Matcher;
import java.util.regex.Pattern;
import java.util.stream.Stream;

/** README.md followed word for word, in a copy of the project's folder; it is run in that folder. */
public final class ReadmeTest {
    private static final Pattern BLOCK = Pattern.compile("(?ms)^```(\\w+)\\n(.*?)^```$");
    /** A call on a line of its own, and behind it what it answers. */
    private static final Pattern ANSWERED =
        Pattern.compile("^(int \\w+ = )?(tea\\.\\w+\\([^;]*\\));\\s+// (-?\\d+|NONE|BAD|STATE|FULL|NO): .*$");
    private static final String PROGRAM = "public final class Tea ";

    private final List<String> kinds = new ArrayList<>();
    private final List<String> blocks = new ArrayList<>();
    private final Path folder;

    private ReadmeTest(String page, Path folder) {
        this.folder = folder;
        Matcher block = BLOCK.matcher(page);
        while (block.find()) {
            kinds.add(block.group(1));
            blocks.add(block.group(2));
        }
    }

    public static void main(String[] args) throws Exception {
        String page = Files.readString(Path.of("README.md"));
        Path folder = Files.createTempDirectory("readme");
        try {
            copy(Path.of("src"), folder.resolve("src"));
            ReadmeTest test = new ReadmeTest(page, folder);
            test.program();
            test.commands();
            test.pieces();
        } finally {
            remove(folder);
        }
        everyCallIsTold(page);
        everyRefusalIsTold(page);
        everyTestIsTold(page);
        Due.finish();
    }

    private void program() throws IOException {
        int programs = 0;
        for (String block : blocks) {
            if (block.startsWith(PROGRAM)) {
                Files.writeString(folder.resolve("Tea.java"), block);
                programs++;
            }
        }
        Due.due("programs", programs, 1);
    }

    /** What a block of commands prints is the text block behind it. */
    private void commands() throws Exception {
        int printed = 0;
        for (int k = 0; k + 1 < blocks.size(); k++) {
            if (kinds.get(k).equals("sh")) {
                Due.same("behind commands", kinds.get(k + 1), "text");
                Due.same("printed by\n" + blocks.get(k), run("sh", "-e", "-c", blocks.get(k)), blocks.get(k + 1));
                printed++;
            }
        }
        Due.due("blocks of commands", printed, 2);
    }

    /** Each piece is the body of a method; a call with an answer behind it is asked whether it answers so. */
    private void pieces() throws Exception {
        StringBuilder methods = new StringBuilder();
        StringBuilder calls = new StringBuilder();
        for (int k = 0; k < blocks.size(); k++) {
            if (kinds.get(k).equals("java") && !blocks.get(k).startsWith(PROGRAM)) {
                methods.append("static void piece").append(k).append("() {\n").append(asked(blocks.get(k))).append("}\n");
                calls.append("piece").append(k).append("();\n");
            }
        }
        String main = "public static void main(String[] args) {\n" + calls + "Due.finish();\n}\n";
        Files.writeString(folder.resolve("Pieces.java"), "public final class Pieces {\n" + methods + main + "}\n");
        Path pieces = Files.createDirectory(folder.resolve("pieces"));
        String classes = Path.of(System.getProperty("java.class.path")).toAbsolutePath().toString();
        Due.same("compiling the pieces", run("javac", "-cp", classes, "-d", pieces.toString(), "Pieces.java"), "");
        String ran = run("java", "-cp", classes + ":" + pieces, "Pieces");
        Due.due("pieces: " + ran, ran.matches("\\d+ answers as due\n") ? 1 : 0, 1);
    }

    private static String asked(String piece) {
        StringBuilder asked = new StringBuilder();
        for (String line : piece.split("\n")) {
            Matcher answered = ANSWERED.matcher(line);
            if (!answered.matches()) {
                Due.due("no answer is told: " + line, line.startsWith("tea.") || line.startsWith("int ") ? 1 : 0, 0);
                asked.append(line).append('\n');
                continue;
            }
            String call = answered.group(2);
            String want = answered.group(3);
            String due = want.matches("[A-Z]+") ? "EvenlyPoured." + want : want + "L";
            if (answered.group(1) != null) {
                asked.append(answered.group(1)).append(call).append(";\n");
                call = answered.group(1).split(" ")[1];
            }
            asked.append("Due.due(\"").append(line.replace("\"", "'")).append("\", ");
            asked.append(call).append(", ").append(due).append(");\n");
        }
        return asked.toString();
    }

    private static void everyCallIsTold(String page) {
        for (var method : EvenlyPoured.class.getDeclaredMethods()) {
            if (java.lang.reflect.Modifier.isPublic(method.getModifiers())) {
                Matcher row = Pattern.compile("(?m)^\\| `" + method.getName() + "\\(([^)]*)\\)` \\|.*\\|.*\\|$").matcher(page);
                if (!row.find()) {
                    Due.fail("README.md does not tell " + method);
                    continue;
                }
                int given = row.group(1).isEmpty() ? 0 : row.group(1).split(", ").length;
                Due.due("given to " + method, given, method.getParameterCount());
                Due.due("a piece calls " + method, page.contains("tea." + method.getName() + "(") ? 1 : 0, 1);
            }
        }
    }

    private static void everyRefusalIsTold(String page) {
        String[] rows = {
            "`NONE` (" + EvenlyPoured.NONE + ")", "`BAD` (" + EvenlyPoured.BAD + ")", "`STATE` (" + EvenlyPoured.STATE + ")",
            "`FULL` (" + EvenlyPoured.FULL + ")", "-11", "-12", "-13", "-14", "-100 and below", "`NO` (" + EvenlyPoured.NO + ")",
        };
        for (String row : rows) {
            Due.due("README.md tells " + row, page.contains("\n| " + row + " | ") ? 1 : 0, 1);
        }
    }

    private static void everyTestIsTold(String page) throws IOException {
        try (Stream<Path> files = Files.list(Path.of("src/test/java"))) {
            for (Path file : files.toList()) {
                String name = file.getFileName().toString().replace(".java", "");
                if (name.endsWith("Test")) {
                    Due.due("README.md tells " + name, page.contains("`" + name + "`") ? 1 : 0, 1);
                }
            }
        }
    }

    /** All that is printed; a command that fails is told by its number behind that. */
    private String run(String... command) throws Exception {
        Process process = new ProcessBuilder(command).directory(folder.toFile()).redirectErrorStream(true).start();
        String printed = new String(process.getInputStream().readAllBytes());
        int code = process.waitFor();
        return code == 0 ? printed : printed + "exit code " + code;
    }

    private static void copy(Path from, Path to) throws IOException {
        try (Stream<Path> paths = Files.walk(from)) {
            for (Path path : paths.toList()) {
                Files.copy(path, to.resolve(from.relativize(path).toString()));
            }
        }
    }

    private static void remove(Path folder) throws IOException {
        try (Stream<Path> paths = Files.walk(folder)) {
            for (Path path : paths.sorted(Comparator.reverseOrder()).toList()) {
                Files.delete(path);
            }
        }
    }
}
