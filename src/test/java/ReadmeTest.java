import java.io.IOException;
import java.net.URL;
import java.net.URLClassLoader;
import java.nio.file.Files;
import java.nio.file.Path;
import java.util.ArrayList;
import java.util.List;
import java.util.regex.Matcher;
import java.util.regex.Pattern;
import javax.tools.ToolProvider;

/** README.md tells the calls that there are, and its examples, run in their order, answer what it says. */
public final class ReadmeTest {
    private static final Path README = Path.of("README.md");
    private static final Path DOCUMENT = Path.of("../shared/DOC.md");
    private static final Pattern ANSWERED = Pattern.compile("^\\s*(?:(?:int|long) (\\w+) = )?(.+);\\s+// (-?\\d+): .+$");
    private static int wrong = 0;
    private static int asked = 0;

    /** The examples call this. */
    public static void due(String line, long got, long want) {
        asked++;
        if (got != want) {
            wrong++;
            System.out.println(line + " answered " + got + ", README.md says " + want);
        }
    }

    public static void main(String[] args) throws Exception {
        List<String> calls = found("^\\| `(\\w+\\([\\w, ]*\\))` \\|", README);
        List<String> promised = new ArrayList<>();
        for (String call : found("^    public (?:int|long) (\\w+\\(.*\\));$", DOCUMENT)) {
            promised.add(call.replaceAll("(int|long) ", ""));
        }
        if (promised.size() != 30 || !calls.equals(promised)) {
            wrong++;
            System.out.println("README.md tells the calls " + calls + ", the document " + promised);
        }
        runExamples();
        if (asked == 0) {
            wrong++;
            System.out.println("README.md has no example");
        }
        System.out.println(wrong == 0 ? "all " + asked + " answers are as README.md says" : wrong + " things are otherwise");
        if (wrong != 0) {
            System.exit(1);
        }
    }

    private static List<String> found(String pattern, Path file) throws IOException {
        List<String> all = new ArrayList<>();
        Matcher m = Pattern.compile(pattern, Pattern.MULTILINE).matcher(Files.readString(file));
        while (m.find()) {
            all.add(m.group(1));
        }
        return all;
    }

    private static String examples() throws IOException {
        StringBuilder code = new StringBuilder("public final class Examples {\n    public static void run() {\n");
        boolean isCode = false;
        for (String line : Files.readAllLines(README)) {
            if (line.startsWith("```")) {
                isCode = line.equals("```java");
            } else if (isCode) {
                code.append(checked(line)).append('\n');
            }
        }
        return code.append("    }\n}\n").toString();
    }

    private static String checked(String line) {
        Matcher m = ANSWERED.matcher(line);
        if (!m.matches()) {
            return line;
        }
        String said = "\"" + line.strip().replace("\"", "'") + "\"";
        return m.group(1) == null ? "ReadmeTest.due(" + said + ", " + m.group(2) + ", " + m.group(3) + "L);"
            : line + "\nReadmeTest.due(" + said + ", " + m.group(1) + ", " + m.group(3) + "L);";
    }

    private static void runExamples() throws Exception {
        Path folder = Files.createTempDirectory("readme");
        Path source = folder.resolve("Examples.java");
        Path compiled = folder.resolve("Examples.class");
        try {
            Files.writeString(source, examples());
            int code = ToolProvider.getSystemJavaCompiler().run(null, null, null, "-cp",
                System.getProperty("java.class.path"), "-d", folder.toString(), source.toString());
            if (code != 0) {
                wrong++;
                System.out.println("the examples of README.md do not compile");
                return;
            }
            try (URLClassLoader loader = new URLClassLoader(new URL[] {folder.toUri().toURL()})) {
                loader.loadClass("Examples").getMethod("run").invoke(null);
            }
        } finally {
            Files.deleteIfExists(source);
            Files.deleteIfExists(compiled);
            Files.deleteIfExists(folder);
        }
    }
}
