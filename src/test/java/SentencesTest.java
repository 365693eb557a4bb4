import java.lang.reflect.InvocationTargetException;
import java.lang.reflect.Method;
import java.util.ArrayList;
import java.util.Comparator;
import java.util.List;

/**
 * Runs the tests of the document's sentences, in the order of the promises. With names behind it (as
 * SheetSentences.codesAbove126) it runs those alone.
 */
public final class SentencesTest {
    static final List<Class<?>> GROUPS = List.of(SheetSentences.class, PageSentences.class, RuleSentences.class,
        MarkSentences.class, LawSentences.class, MendSentences.class, BesideSentences.class, ToldSentences.class);

    private SentencesTest() {
    }

    public static void main(String[] args) {
        Checks c = new Checks();
        List<String> names = List.of(args);
        int ran = 0;
        for (Method test : all()) {
            if (names.isEmpty() || names.contains(nameOf(test))) {
                run(test, c);
                ran++;
            }
        }
        c.about("");
        c.isTrue("tests were found", ran > 0 && (names.isEmpty() || ran == names.size()));
        c.end("SentencesTest (" + ran + " sentences)");
    }

    /** How many answers of one test are wrong. */
    static int wrongAnswers(String name) {
        Checks c = new Checks();
        for (Method test : all()) {
            if (nameOf(test).equals(name)) {
                run(test, c);
            }
        }
        return c.wrong();
    }

    static List<Method> all() {
        List<Method> tests = new ArrayList<>();
        for (Class<?> group : GROUPS) {
            for (Method m : group.getDeclaredMethods()) {
                if (m.isAnnotationPresent(Sentence.class)) {
                    tests.add(m);
                }
            }
        }
        tests.sort(Comparator.comparingInt((Method m) -> sentence(m).promise()).thenComparing(SentencesTest::nameOf));
        return tests;
    }

    static Sentence sentence(Method test) {
        return test.getAnnotation(Sentence.class);
    }

    static String nameOf(Method test) {
        return test.getDeclaringClass().getSimpleName() + "." + test.getName();
    }

    private static void run(Method test, Checks c) {
        Sentence s = sentence(test);
        c.about("promise " + s.promise() + (s.inTerms() ? " (Terms)" : "") + ", \"" + String.join("\" \"", s.says())
            + "\", " + nameOf(test) + ": ");
        int before = c.made();
        try {
            test.invoke(null, c);
        } catch (InvocationTargetException e) {
            c.isTrue("threw " + e.getCause(), false);
        } catch (IllegalAccessException e) {
            c.isTrue("cannot be run", false);
        }
        c.isTrue("it checks something", c.made() > before);
    }
}
