import java.io.IOException;
import java.lang.reflect.Field;
import java.net.URL;
import java.net.URLClassLoader;
import java.nio.file.Files;
import java.nio.file.Path;
import java.util.ArrayList;
import java.util.List;
import java.util.regex.Matcher;
import java.util.regex.Pattern;
import javax.tools.ToolProvider;

/** README.md: its code is compiled and answers as it says; each call of the document stands there with its refusals. */
public final class ReadmeTest {
    private static final Checks c = new Checks();
    private static final Pattern ANSWERED = Pattern.compile("(int (\\w+) = )?(x\\..*);\\s+// (-?\\d+|[A-Z]+)\\b.*");

    private ReadmeTest() {
    }

    /** Called by the README's code for each answer that it tells. */
    public static void due(String call, long got, long want) {
        c.due("README.md: " + call, got, want);
    }

    public static void main(String[] args) throws Exception {
        String readme = Files.readString(Path.of("README.md"));
        String document = Files.readString(Path.of("../shared/DOC.md"));
        calls(readme, document);
        constants(readme);
        testsAreNamed(readme);
        code(readme);
        c.end("ReadmeTest");
    }

    private static List<String> found(String pattern, String text) {
        List<String> all = new ArrayList<>();
        Matcher m = Pattern.compile(pattern).matcher(text);
        while (m.find()) {
            all.add(m.group(1));
        }
        return all;
    }

    private static void calls(String readme, String document) {
        List<String> face = found("(?m)^    public ((?:int|long) \\w+\\(.*\\));$", document);
        c.due("calls of the document's face", face.size(), 26);
        for (String call : face) {
            List<String> told = found("(?m)^\\| `" + Pattern.quote(call) + "` \\| .* \\| ?(.*)\\|$", readme);
            c.isTrue("README.md tells " + call + " once", told.size() == 1);
            List<String> refusals = found("\\b(UNKNOWN|OUTSIDE|STATE|FULL)\\b", promiseOf(call, document));
            c.isTrue(call + " refuses with " + refusals + ", README.md says " + told,
                told.size() == 1 && refusals.equals(found("`(\\w+)`", told.get(0))));
        }
    }

    private static String promiseOf(String call, String document) {
        List<String> promises = found("(?s)`" + Pattern.quote(call) + "`:(.*?)\n## ", document);
        c.due("promises of " + call, promises.size(), 1);
        return String.join(" ", promises);
    }

    private static void constants(String readme) throws IllegalAccessException {
        for (Field f : RowsDrawn.class.getFields()) {
            String told = "`" + f.getName() + "`( \\|)? \\(?" + f.getInt(null) + "\\b";
            c.isTrue("README.md tells " + f.getName(), Pattern.compile(told).matcher(readme).find());
        }
    }

    private static void testsAreNamed(String readme) throws IOException {
        try (var files = Files.newDirectoryStream(Path.of("src/test/java"), "*Test.java")) {
            for (Path file : files) {
                String name = file.getFileName().toString().replace(".java", "");
                c.isTrue("README.md names " + name, readme.contains("`" + name + "`"));
            }
        }
    }

    private static void code(String readme) throws Exception {
        StringBuilder methods = new StringBuilder();
        StringBuilder lines = new StringBuilder();
        for (String block : found("(?s)```java\n(.*?)```", readme)) {
            if (block.startsWith("static ")) {
                methods.append(block);
            } else {
                block.lines().forEach(line -> lines.append(asked(line)).append('\n'));
            }
        }
        int before = c.made();
        runCode("public final class ReadmeCode {\n" + methods + "public static void run() {\n" + lines + "}\n}\n");
        c.isTrue("README.md tells answers", c.made() - before > 20);
    }

    /** A line whose comment begins with an answer becomes one that looks whether it is so. */
    private static String asked(String line) {
        Matcher m = ANSWERED.matcher(line);
        if (!m.matches()) {
            return line;
        }
        String want = m.group(4).matches("[A-Z]+") ? "RowsDrawn." + m.group(4) : m.group(4);
        String got = m.group(2) == null ? m.group(3) : m.group(2);
        String made = m.group(2) == null ? "" : "int " + m.group(2) + " = " + m.group(3) + "; ";
        return made + "ReadmeTest.due(\"" + m.group(3) + "\", " + got + ", " + want + ");";
    }

    private static void runCode(String code) throws Exception {
        Path place = Files.createTempDirectory("readme");
        Path file = place.resolve("ReadmeCode.java");
        Files.writeString(file, code);
        int failed = ToolProvider.getSystemJavaCompiler().run(null, null, null, "--release", "17",
            "-cp", System.getProperty("java.class.path"), "-d", place.toString(), file.toString());
        c.due("README.md's code compiles", failed, 0);
        if (failed == 0) {
            try (URLClassLoader loader = new URLClassLoader(new URL[] {place.toUri().toURL()})) {
                loader.loadClass("ReadmeCode").getMethod("run").invoke(null);
            }
        }
        Files.deleteIfExists(place.resolve("ReadmeCode.class"));
        Files.deleteIfExists(file);
        Files.deleteIfExists(place);
    }
}
