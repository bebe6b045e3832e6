import java.lang.reflect.InvocationTargetException;
import java.lang.reflect.Method;
import java.util.ArrayList;
import java.util.Comparator;
import java.util.List;

/**
 * Each sentence of the document that names a boundary case has a test of its own, a method named by
 * Sentence; every word of the document is quoted by such a test, or stands among those that name no boundary.
 */
public final class SentencesTest {
    private static final List<Class<?>> CASES = List.of(
        TermSentences.class, MountSentences.class, WritingSentences.class, FileSentences.class, AnswerSentences.class);

    private static final String[] NO_BOUNDARY = {
        "A vault of tapes in cells, with a hand and three drives: files are appended to tapes, read back, moved and salvaged, "
            + "tapes looked through;",
        "THE STAGE has a name and data.",
        // Which of two mounts ends first changes no answer.
        "The second mount ends before the first one."
    };

    private SentencesTest() {
    }

    public static void main(String[] args) throws Exception {
        Document document = new Document();
        for (int promise = 1; promise <= 19; promise++) {
            List<Method> tests = tests(promise);
            for (Method test : tests) {
                run(test, document);
            }
            Check.part("promise " + promise);
            Check.that("it has tests of its own", !tests.isEmpty());
        }
        Check.part("words that name no boundary");
        for (String words : NO_BOUNDARY) {
            document.quotePlain(words);
        }
        document.allQuoted();
        Check.end();
    }

    private static List<Method> tests(int promise) {
        List<Method> found = new ArrayList<>();
        for (Class<?> cases : CASES) {
            for (Method method : cases.getDeclaredMethods()) {
                Sentence sentence = method.getAnnotation(Sentence.class);
                if (sentence != null && sentence.promise() == promise) {
                    found.add(method);
                }
            }
        }
        found.sort(Comparator.comparing(Method::getName));
        return found;
    }

    private static void run(Method test, Document document) throws IllegalAccessException {
        Sentence sentence = test.getAnnotation(Sentence.class);
        Check.part("promise " + sentence.promise() + ", \"" + sentence.words() + "\" (" + test.getName() + ")");
        document.quote(sentence.promise(), sentence.words());
        int before = Check.asked();
        try {
            test.invoke(null);
        } catch (InvocationTargetException thrown) {
            Check.that("no " + thrown.getCause(), false);
        }
        Check.that("the test asks something", Check.asked() > before);
    }
}
