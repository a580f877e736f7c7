import java.io.IOException;
import java.lang.reflect.Method;
import java.nio.file.Files;
import java.nio.file.Path;
import java.util.ArrayList;
import java.util.List;

/** That the tests of sentences quote the document, and that no sentence of a promise is without one. */
public final class EverySentenceTest {
    private static final Path DOCUMENT = Path.of("../shared/DOC.md");
    private static final int PROMISES = 27;
    private static final Class<?>[] TESTS = {EdgesOfTheTapeTest.class, EdgesOfCircuitsTest.class,
        EdgesOfGarbledOnesTest.class, EdgesOfRunsTest.class, EdgesOfWhatIsToldTest.class};
    private static final Due due = new Due();

    public static void main(String[] args) throws IOException {
        if (!Files.exists(DOCUMENT)) {
            System.out.println("no document at " + DOCUMENT + ": the quotes are not compared with it");
            return;
        }
        String document = Files.readString(DOCUMENT).replaceAll("\\s+", " ");
        List<Method> tests = new ArrayList<>();
        for (Class<?> c : TESTS) {
            tests.addAll(Sentences.testsOf(c));
        }
        for (Method test : tests) {
            quotesTheDocument(test, document);
        }
        for (int n = 1; n <= PROMISES; n++) {
            for (String sentence : sentencesOf(promise(document, n))) {
                due.holds("promise " + n + " has a test for \"" + sentence + "\"", hasTest(tests, n, sentence));
            }
        }
        System.out.println(tests.size() + " tests name a sentence");
        due.end();
    }

    /** What a test is for stands in the terms, under its own promise, or under one ahead of it ("likewise below"). */
    private static void quotesTheDocument(Method test, String document) {
        Sentence s = test.getAnnotation(Sentence.class);
        String own = promise(document, s.promise());
        String upToIt = document.substring(0, document.indexOf(own)) + own;
        due.holds(Sentences.nameOf(test) + " quotes the document", upToIt.contains(s.says()));
    }

    /** What stands behind the signature of a promise, up to the next heading. */
    private static String promise(String document, int n) {
        int start = document.indexOf("## Promise " + n + ":");
        int end = document.indexOf("## ", start + 3);
        String section = document.substring(start, end);
        return section.substring(section.indexOf("`: ") + 3).trim();
    }

    /** A stop ends a sentence; the two dots of a range have a blank or a dot ahead of them. */
    private static String[] sentencesOf(String promise) {
        return promise.split("(?<=[^. ]\\.) ");
    }

    private static boolean hasTest(List<Method> tests, int n, String sentence) {
        for (Method test : tests) {
            Sentence s = test.getAnnotation(Sentence.class);
            if (s.promise() == n && sentence.contains(s.says())) {
                return true;
            }
        }
        return false;
    }
}
