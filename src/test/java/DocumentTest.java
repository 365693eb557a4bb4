import java.io.IOException;
import java.lang.reflect.Method;
import java.nio.file.Files;
import java.nio.file.Path;
import java.util.Arrays;
import java.util.regex.Matcher;
import java.util.regex.Pattern;

/** The sentences that tests name stand in the document, and no word of the document is left without a test. */
public final class DocumentTest {
    private static final Checks c = new Checks();
    private static final int PROMISES = 27;

    private DocumentTest() {
    }

    public static void main(String[] args) throws IOException {
        String document = Files.readString(Path.of("../shared/DOC.md")).replaceAll("\\s+", " ");
        everyWordHasATest("Terms", terms(document), 0);
        for (int promise = 1; promise <= PROMISES; promise++) {
            everyWordHasATest("promise " + promise, promise(document, promise), promise);
        }
        c.end("DocumentTest");
    }

    /** From "1 PAGES" on; what stands ahead of it, and the lists of calls, tell no more than the promises do. */
    private static String terms(String document) {
        return between(document, "======== 1", "## Promise 1:")
            .replaceFirst("## The public face.*?## Terms", " ")
            .replaceAll("Ahead of the calls .*? the interface says: ---- [a-z, ]*\\.", " ")
            .replaceAll("======== \\d|```text|```", " ").replaceAll("\\s+", " ");
    }

    private static String promise(String document, int number) {
        String next = number == PROMISES ? "## Not promised" : "## Promise " + (number + 1) + ":";
        return between(document, "## Promise " + number + ":", next).replaceFirst(".*?`[^`]*`:", "");
    }

    private static String between(String text, String from, String to) {
        Matcher m = Pattern.compile(Pattern.quote(from) + "(.*?)" + Pattern.quote(to)).matcher(text);
        boolean found = m.find();
        c.isTrue("the document has " + from, found);
        return found ? m.group(1) : "";
    }

    /** Promise 0 stands for the Terms. */
    private static void everyWordHasATest(String where, String text, int promise) {
        char[] left = text.toCharArray();
        for (Method test : SentencesTest.all()) {
            Sentence s = SentencesTest.sentence(test);
            if (promise == (s.inTerms() ? 0 : s.promise())) {
                for (String words : s.says()) {
                    c.isTrue(where + " says \"" + words + "\", as " + SentencesTest.nameOf(test) + " has it",
                        strike(text, words, left));
                }
            }
        }
        String rest = new String(left).replaceAll("[\\s.,;:()]+", " ").trim();
        c.isTrue(where + ": no test names \"" + rest + "\"", rest.isEmpty());
    }

    private static boolean strike(String text, String words, char[] left) {
        int at = text.indexOf(words);
        boolean found = at >= 0;
        while (at >= 0) {
            Arrays.fill(left, at, at + words.length(), ' ');
            at = text.indexOf(words, at + 1);
        }
        return found;
    }
}
