import java.io.ByteArrayOutputStream;
import java.io.IOException;
import java.io.OutputStream;
import java.io.PrintStream;
import java.lang.reflect.Method;
import java.net.URI;
import java.nio.file.Files;
import java.nio.file.Path;
import java.util.ArrayList;
import java.util.HashMap;
import java.util.HashSet;
import java.util.List;
import java.util.Map;
import java.util.Set;
import java.util.regex.Matcher;
import java.util.regex.Pattern;
import javax.tools.FileObject;
import javax.tools.ForwardingJavaFileManager;
import javax.tools.JavaCompiler;
import javax.tools.JavaFileManager;
import javax.tools.JavaFileObject;
import javax.tools.SimpleJavaFileObject;
import javax.tools.ToolProvider;

/**
 * Shows that the test of each sentence fails if the sentence is broken: src/test/mutants.txt tells, for each test,
 * changes to the program that break its sentence; each is made, compiled, and given to that test alone.
 * Not run by .ci/run, since it knows the program's own lines: run it with .ci/mutants.
 */
public final class Mutants {
    private static final Path PROGRAM = Path.of("src/main/java/RowsDrawn.java");
    private static final Path LIST = Path.of("src/test/mutants.txt");

    private static final class Mutant {
        final String test;
        final List<String> finds = new ArrayList<>();
        final List<String> puts = new ArrayList<>();

        Mutant(String test) {
            this.test = test;
        }

        /** The program with the changes made; null, if what one looks for does not stand there just once. */
        String made(String program) {
            String text = program;
            for (int i = 0; i < finds.size(); i++) {
                Matcher m = pattern(finds.get(i)).matcher(text);
                if (!m.find()) {
                    return null;
                }
                int start = m.start();
                int end = m.end();
                if (m.find()) {
                    return null;
                }
                text = text.substring(0, start) + puts.get(i) + text.substring(end);
            }
            return text;
        }

        /** Spaces stand for any white space, so that what goes over several lines is told in one. */
        private static Pattern pattern(String find) {
            StringBuilder regex = new StringBuilder();
            for (String part : find.trim().split(" +")) {
                regex.append(regex.length() == 0 ? "" : "\\s+").append(Pattern.quote(part));
            }
            return Pattern.compile(regex.toString());
        }
    }

    private Mutants() {
    }

    public static void main(String[] args) throws Exception {
        String program = Files.readString(PROGRAM);
        List<Mutant> all = read();
        Set<String> without = new HashSet<>();
        for (Method test : SentencesTest.all()) {
            without.add(SentencesTest.nameOf(test));
        }
        int alive = 0;
        for (Mutant m : all) {
            without.remove(m.test);
            String why = whyAlive(m, program);
            if (why != null) {
                alive++;
                System.out.println(m.test + " " + m.finds + " -> " + m.puts + ": " + why);
            }
        }
        System.out.println(all.size() + " broken programs, " + alive + " not found out; tests without one: " + without);
        System.exit(alive == 0 && without.isEmpty() ? 0 : 1);
    }

    private static List<Mutant> read() throws IOException {
        List<Mutant> all = new ArrayList<>();
        String test = "";
        Mutant last = null;
        for (String line : Files.readAllLines(LIST)) {
            if (line.isBlank() || line.startsWith("#")) {
                last = null;
            } else if (line.startsWith("- ")) {
                if (last == null) {
                    last = new Mutant(test);
                    all.add(last);
                }
                last.finds.add(line.substring(2));
            } else if (line.startsWith("+")) {
                last.puts.add(line.substring(1));
            } else {
                test = line.trim();
                last = null;
            }
        }
        return all;
    }

    private static String whyAlive(Mutant m, String program) throws Exception {
        String text = m.made(program);
        if (text == null) {
            return "what it looks for does not stand in the program just once";
        }
        Map<String, byte[]> classes = compiled(text);
        if (classes == null) {
            return "it does not compile";
        }
        return wrongAnswers(m.test, classes) > 0 ? null : "its test passes";
    }

    private static int wrongAnswers(String test, Map<String, byte[]> classes) throws Exception {
        PrintStream out = System.out;
        System.setOut(new PrintStream(OutputStream.nullOutputStream()));
        try {
            Class<?> runner = new Loader(classes).loadClass("SentencesTest");
            Method wrong = runner.getDeclaredMethod("wrongAnswers", String.class);
            wrong.setAccessible(true);
            return (Integer) wrong.invoke(null, test);
        } finally {
            System.setOut(out);
        }
    }

    /** Loads the broken program, and the tests anew beside it. */
    private static final class Loader extends ClassLoader {
        private final Map<String, byte[]> classes;

        Loader(Map<String, byte[]> classes) {
            super(ClassLoader.getPlatformClassLoader());
            this.classes = classes;
        }

        @Override
        protected Class<?> findClass(String name) throws ClassNotFoundException {
            byte[] code = classes.get(name);
            if (code == null) {
                try (var in = ClassLoader.getSystemResourceAsStream(name + ".class")) {
                    if (in == null) {
                        throw new ClassNotFoundException(name);
                    }
                    code = in.readAllBytes();
                } catch (IOException e) {
                    throw new ClassNotFoundException(name, e);
                }
            }
            return defineClass(name, code, 0, code.length);
        }
    }

    private static Map<String, byte[]> compiled(String text) {
        JavaCompiler compiler = ToolProvider.getSystemJavaCompiler();
        Map<String, ByteArrayOutputStream> made = new HashMap<>();
        JavaFileManager files = new ForwardingJavaFileManager<JavaFileManager>(
                compiler.getStandardFileManager(null, null, null)) {
            @Override
            public JavaFileObject getJavaFileForOutput(Location l, String name, JavaFileObject.Kind k, FileObject f) {
                return new SimpleJavaFileObject(URI.create("mem:///" + name.replace('$', '_') + ".class"), k) {
                    @Override
                    public OutputStream openOutputStream() {
                        ByteArrayOutputStream out = new ByteArrayOutputStream();
                        made.put(name, out);
                        return out;
                    }
                };
            }
        };
        JavaFileObject source = new SimpleJavaFileObject(URI.create("mem:///RowsDrawn.java"), JavaFileObject.Kind.SOURCE) {
            @Override
            public CharSequence getCharContent(boolean ignored) {
                return text;
            }
        };
        boolean good = compiler.getTask(null, files, d -> { }, List.of("-nowarn"), null, List.of(source)).call();
        Map<String, byte[]> classes = new HashMap<>();
        made.forEach((name, out) -> classes.put(name, out.toByteArray()));
        return good ? classes : null;
    }
}
