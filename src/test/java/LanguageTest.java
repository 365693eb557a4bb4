import java.io.IOException;
import java.lang.reflect.Constructor;
import java.lang.reflect.Field;
import java.lang.reflect.Method;
import java.lang.reflect.Modifier;
import java.nio.file.Files;
import java.nio.file.Path;
import java.util.ArrayList;
import java.util.List;
import java.util.Set;
import java.util.TreeSet;
import java.util.regex.Matcher;
import java.util.regex.Pattern;

/** The face of the class, and what of LANGUAGE.md can be seen by reflection or in the source text. */
public final class LanguageTest {
    private static final Checks c = new Checks();
    private static final String[] FACE = {
        "int letters(long)", "int blank()", "int fault(int)", "int page()", "int rule(int)", "int as(int, int)",
        "int box(int, int, int)", "int gives(int, int)", "int word(int, int, int)", "int within(int, int, int)",
        "int mark(int, int, int)", "int whole(int, boolean)", "int fits(int)", "int step(int, int)",
        "int leads(int, int)", "int ask(int)", "int law(int, int, int)", "int holds(int, int, int)",
        "int broken(int, int)", "int mend(int, int, int, int)", "int like(int, int)", "int nearest(int)",
        "int joined(int, int, int, int, int, int)", "int key(int, int, int, int)", "int count(int)", "long digest()"};

    public static void main(String[] args) throws IOException {
        face();
        constants();
        classesInside();
        String source = Files.readString(Path.of("src/main/java/RowsDrawn.java"));
        text(withoutCommentsAndTexts(source));
        lengths(source);
        c.end("LanguageTest");
    }

    private static String told(Method m) {
        StringBuilder text = new StringBuilder(m.getReturnType().getSimpleName() + " " + m.getName() + "(");
        for (Class<?> type : m.getParameterTypes()) {
            text.append(text.charAt(text.length() - 1) == '(' ? "" : ", ").append(type.getSimpleName());
        }
        return text + ")";
    }

    private static void face() {
        Class<?> k = RowsDrawn.class;
        c.isTrue("public final", Modifier.isPublic(k.getModifiers()) && Modifier.isFinal(k.getModifiers()));
        c.isTrue("no class above", k.getSuperclass() == Object.class && k.getInterfaces().length == 0);
        Set<String> found = new TreeSet<>();
        Set<String> names = new TreeSet<>();
        for (Method m : k.getDeclaredMethods()) {
            if (Modifier.isPublic(m.getModifiers())) {
                found.add(told(m));
                names.add(m.getName());
            }
        }
        c.isTrue("the face, found " + found, found.equals(new TreeSet<>(List.of(FACE))));
        for (Method m : k.getDeclaredMethods()) {
            if (!Modifier.isPublic(m.getModifiers()) && !m.isSynthetic()) {
                c.isTrue("private: " + m, Modifier.isPrivate(m.getModifiers()));
                c.isTrue("no name of the face: " + m, !names.contains(m.getName()));
            }
        }
        for (Class<?> inside : k.getDeclaredClasses()) {
            for (Method m : inside.getDeclaredMethods()) {
                c.isTrue("no name of the face: " + m,
                    !Modifier.isPrivate(m.getModifiers()) || !names.contains(m.getName()));
                c.isTrue("parameters of " + m, m.getParameterCount() <= 7);
            }
        }
        Constructor<?>[] made = k.getDeclaredConstructors();
        c.isTrue("one constructor", made.length == 1 && made[0].getParameterCount() == 0
            && Modifier.isPublic(made[0].getModifiers()));
    }

    private static void constants() {
        c.due("NONE", RowsDrawn.NONE, -1);
        c.due("UNKNOWN", RowsDrawn.UNKNOWN, -101);
        c.due("OUTSIDE", RowsDrawn.OUTSIDE, -102);
        c.due("STATE", RowsDrawn.STATE, -103);
        c.due("FULL", RowsDrawn.FULL, -104);
        Set<String> open = new TreeSet<>();
        for (Field f : RowsDrawn.class.getDeclaredFields()) {
            if (!Modifier.isPrivate(f.getModifiers())) {
                open.add(f.getName());
            }
        }
        c.isTrue("public fields " + open, open.equals(Set.of("NONE", "UNKNOWN", "OUTSIDE", "STATE", "FULL")));
    }

    private static List<Class<?>> allClasses() {
        List<Class<?>> all = new ArrayList<>(List.of(RowsDrawn.class.getDeclaredClasses()));
        all.add(RowsDrawn.class);
        return all;
    }

    private static void classesInside() {
        c.isTrue("some twelve classes", allClasses().size() <= 12);
        for (Class<?> k : allClasses()) {
            int own = 0;
            for (Field f : k.getDeclaredFields()) {
                if (Modifier.isStatic(f.getModifiers())) {
                    c.isTrue("final: " + f, Modifier.isFinal(f.getModifiers()));
                } else {
                    own++;
                }
            }
            c.isTrue("fields of " + k + ": " + own, own <= 20);
            if (k != RowsDrawn.class) {
                int is = k.getModifiers();
                c.isTrue("static, not open: " + k,
                    Modifier.isStatic(is) && !Modifier.isPublic(is) && !Modifier.isProtected(is));
                c.due("nothing further inside " + k, k.getDeclaredClasses().length, 0);
            }
        }
    }

    private static String withoutCommentsAndTexts(String source) {
        return source.replaceAll("(?s)/\\*.*?\\*/", " ").replaceAll("//[^\n]*", " ")
            .replaceAll("\"(\\\\.|[^\"\\\\])*\"", "\"\"").replaceAll("'(\\\\.|[^'\\\\])'", "''");
    }

    private static void text(String code) {
        String[] ruledOut = {"throw", "throws", "try", "catch", "synchronized", "assert", "volatile", "native", "package",
            "protected", "var", "Object", "Thread", "Random", "nanoTime", "currentTimeMillis", "hashCode"};
        for (String word : ruledOut) {
            c.isTrue("no " + word, !Pattern.compile("\\b" + word + "\\b").matcher(code).find());
        }
        for (String sign : new String[] {") ->", "::", "@", "Exact("}) {
            c.isTrue("no " + sign, !code.contains(sign));
        }
        c.isTrue("no static initialiser block", !Pattern.compile("\\bstatic\\s*\\{").matcher(code).find());
        Matcher imports = Pattern.compile("import ([^;]*);").matcher(code);
        while (imports.find()) {
            c.isTrue("import " + imports.group(1),
                Set.of("java.util.Arrays", "java.util.ArrayList", "java.util.List").contains(imports.group(1)));
        }
        Pattern known = Pattern.compile("(Integer|Long|Math)\\.[a-z]\\w*|Arrays\\.(copyOf|copyOfRange|fill)"
            + "|System\\.arraycopy|List\\.of");
        Matcher library = Pattern.compile("\\b(Integer|Math|Long|Arrays|System|Character|String|List)\\.\\w+").matcher(code);
        while (library.find()) {
            c.isTrue("library: " + library.group(), known.matcher(library.group()).matches());
        }
        c.isTrue("letters 1 to 127 alone", code.chars().allMatch(letter -> letter > 0 && letter < 128));
    }

    /** Methods stand at four or eight spaces, and end with a brace at the same depth. */
    private static void lengths(String source) {
        String[] lines = source.split("\n");
        int methods = 0;
        for (int i = 0; i < lines.length; i++) {
            Matcher head = Pattern.compile("^( {4}| {8})[A-Za-z].*\\) \\{$").matcher(lines[i]);
            if (head.find()) {
                int end = i;
                while (end < lines.length && !lines[end].equals(head.group(1) + "}")) {
                    end++;
                }
                methods++;
                c.isTrue("length of " + lines[i].trim(), end - i <= 60);
            }
        }
        c.isTrue("methods were found", methods >= FACE.length);
    }
}
