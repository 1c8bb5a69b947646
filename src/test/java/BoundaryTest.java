import java.io.IOException;
import java.lang.reflect.InvocationTargetException;
import java.lang.reflect.Method;
import java.lang.reflect.Modifier;
import java.nio.file.Files;
import java.nio.file.Path;
import java.util.Arrays;
import java.util.Comparator;

/**
 * Runs a test for each sentence of the document that names a boundary case. Each test quotes its
 * sentence, which must stand in the document; each finding of each promise must be quoted by one.
 */
public final class BoundaryTest {
    private static final Class<?>[] TESTS = {
        TermsSentences.class, ParishSentences.class, PeopleSentences.class, DaysSentences.class,
        BestSentences.class, TextSentences.class, SheetSentences.class, ImageSentences.class};
    private static final int PROMISES = 39;
    private static final String[] FINDINGS = {"BEYOND", "FULL", "KIND:", "NONE", "STATE", "MISSING", "SIZE"};

    private final String doc;
    private final StringBuilder[] quoted = new StringBuilder[PROMISES + 1];

    private BoundaryTest(String doc) {
        this.doc = doc;
        for (int i = 0; i <= PROMISES; i++) {
            quoted[i] = new StringBuilder();
        }
    }

    private String section(int promise) {
        String head = promise == 0 ? "\n## Terms\n" : "\n## Promise " + promise + ": ";
        int from = doc.indexOf(head);
        SentenceTests.CHECKS.due("the document has the section" + head, from >= 0);
        int to = doc.indexOf("\n## ", from + 1);
        return from < 0 ? "" : doc.substring(from, to);
    }

    private void runAll(Class<?> tests) throws IllegalAccessException, InvocationTargetException {
        Method[] methods = tests.getDeclaredMethods();
        Arrays.sort(methods, Comparator.comparing(Method::getName));
        for (Method m : methods) {
            Sentence sentence = m.getAnnotation(Sentence.class);
            if (sentence != null) {
                run(m, sentence);
            } else if (!m.isSynthetic() && !Modifier.isPrivate(m.getModifiers())) {
                SentenceTests.CHECKS.due("a test without a sentence: " + m, false);
            }
        }
    }

    private void run(Method m, Sentence sentence) throws IllegalAccessException, InvocationTargetException {
        String label = sentence.promise() + ", '" + sentence.says() + "'";
        SentenceTests.CHECKS.due("the document says " + label,
            section(sentence.promise()).contains(sentence.says()));
        quoted[sentence.promise()].append(sentence.says()).append('\n');
        SentenceTests.begin(label);
        int before = SentenceTests.CHECKS.done();
        m.invoke(null);
        SentenceTests.CHECKS.due("something is checked for " + label, SentenceTests.CHECKS.done() > before);
    }

    private void checkThatAllAreQuoted() {
        for (int promise = 1; promise <= PROMISES; promise++) {
            String said = section(promise);
            SentenceTests.CHECKS.due("promise " + promise + " is quoted", quoted[promise].length() > 0);
            for (String finding : FINDINGS) {
                SentenceTests.CHECKS.due("promise " + promise + ", its " + finding + " is quoted",
                    !said.contains(finding) || quoted[promise].indexOf(finding) >= 0);
            }
        }
    }

    public static void main(String[] args) throws IOException, ReflectiveOperationException {
        BoundaryTest test = new BoundaryTest(Files.readString(Path.of("../shared/DOC.md")));
        for (Class<?> tests : TESTS) {
            test.runAll(tests);
        }
        test.checkThatAllAreQuoted();
        SentenceTests.CHECKS.end();
    }
}
