import java.io.IOException;
import java.net.URL;
import java.net.URLClassLoader;
import java.nio.file.Files;
import java.nio.file.Path;
import java.util.ArrayList;
import java.util.List;
import java.util.regex.Matcher;
import java.util.regex.Pattern;
import java.util.stream.Stream;
import javax.tools.JavaCompiler;
import javax.tools.ToolProvider;

/** What README.md tells: its pieces of program answer what stands behind them, and no call or test goes unnamed. */
public final class ReadmeTest {
    private static final Path PAGE = Path.of("README.md");
    private static final Path TESTS = Path.of("src/test/java");
    private static final Pattern PIECE = Pattern.compile("```java\n(.*?)```", Pattern.DOTALL);
    /** A call, perhaps with a name for what it answers, and behind it what it must answer. */
    private static final Pattern ANSWERED =
            Pattern.compile("((?:int \\w+ = )?)((?:x\\.\\w+|tell)\\(.*\\)); +// (NONE|true|false|-?[0-9]+|0b[01]+)(:.*)?");
    private static final Pattern DECLARED = Pattern.compile("int (\\w+) = ");

    private static int asked = 0;
    private static int wrong = 0;

    private ReadmeTest() { }

    public static void main(String[] args) throws IOException, ReflectiveOperationException {
        String page = Files.readString(PAGE);
        runPieces(page);
        namesEveryCall(page);
        namesEveryTest(page);
        System.out.println("README.md: " + asked + " answers asked, " + wrong + " wrong");
        if (wrong != 0) {
            System.exit(1);
        }
    }

    private static void need(boolean good, String otherwise) {
        if (!good) {
            wrong++;
            System.out.println("README.md: " + otherwise);
        }
    }

    /** Called by the program that is made of the pieces. */
    public static void due(String call, Object got, Object want) {
        asked++;
        need(got.equals(want), call + " answered " + got + ", it says " + want);
    }

    private static void namesEveryCall(String page) {
        for (String signature : Document.face()) {
            String name = signature.replaceAll(".* (\\w+)\\(.*", "$1");
            need(page.contains("x." + name + "("), name + " is used nowhere");
        }
    }

    private static void namesEveryTest(String page) throws IOException {
        try (Stream<Path> files = Files.list(TESTS)) {
            for (Path file : files.toList()) {
                String name = file.getFileName().toString().replace(".java", "");
                need(!name.endsWith("Test") || page.contains("| `" + name + "` |"), name + " is not in the table");
            }
        }
        Matcher rows = Pattern.compile("(?m)^\\| `(\\w+)` \\|").matcher(page);
        while (rows.find()) {
            need(Files.exists(TESTS.resolve(rows.group(1) + ".java")), "there is no test " + rows.group(1));
        }
    }

    private static void runPieces(String page) throws IOException, ReflectiveOperationException {
        Path out = Files.createTempDirectory("readme");
        try {
            Path source = out.resolve("Readme.java");
            Files.writeString(source, program(page));
            JavaCompiler compiler = ToolProvider.getSystemJavaCompiler();
            int status = compiler == null ? 1
                    : compiler.run(null, null, null, "-cp", System.getProperty("java.class.path"), source.toString());
            need(status == 0, "its pieces don't compile");
            if (status == 0) {
                try (URLClassLoader loader = new URLClassLoader(new URL[] {out.toUri().toURL()})) {
                    loader.loadClass("Readme").getMethod("run").invoke(null);
                }
                need(asked > 0, "it tells no answer");
            }
        } finally {
            remove(out);
        }
    }

    /** All statements in one method, as the pieces are one story; a piece that begins with static is a method. */
    private static String program(String page) {
        List<String> methods = new ArrayList<>();
        List<String> statements = new ArrayList<>();
        Matcher pieces = PIECE.matcher(page);
        while (pieces.find()) {
            String piece = pieces.group(1);
            if (piece.startsWith("static ")) {
                methods.add(piece);
            } else {
                piece.lines().forEach(line -> statements.add(asked(line.strip())));
            }
        }
        return "public final class Readme {\n" + String.join("\n", methods)
                + "public static void run() {\n" + String.join("\n", statements) + "\n}\n}\n";
    }

    private static String asked(String line) {
        Matcher m = ANSWERED.matcher(line);
        if (!m.matches()) {
            need(!line.contains("//"), "what is told by: " + line);
            return line;
        }
        String call = m.group(2);
        String quoted = "\"" + call.replace("\\", "\\\\").replace("\"", "\\\"") + "\"";
        Matcher declared = DECLARED.matcher(m.group(1));
        String before = declared.matches() ? m.group(1) + call + "; " : "";
        String got = declared.matches() ? declared.group(1) : call;
        return before + "ReadmeTest.due(" + quoted + ", " + got + ", " + m.group(3) + ");";
    }

    private static void remove(Path directory) throws IOException {
        try (Stream<Path> files = Files.list(directory)) {
            for (Path file : files.toList()) {
                Files.delete(file);
            }
        }
        Files.delete(directory);
    }
}
