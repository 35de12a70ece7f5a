import java.lang.reflect.Method;
import java.util.ArrayList;
import java.util.List;
import java.util.regex.Matcher;
import java.util.regex.Pattern;

/**
 * Each boundary test's name leads to the sentence that it quotes, each sentence of the document
 * has a test, and so has each word in it that names a refusal, a FINDING or NONE.
 */
public final class BoundaryCoverTest {
    private static final List<Class<? extends Boundaries>> ALL = List.of(
        BoundaryStreetTest.class, BoundarySalesTest.class, BoundaryPlacesTest.class,
        BoundaryDinnersTest.class, BoundaryFactsTest.class, BoundarySheetsTest.class);
    private static final Pattern NAME = Pattern.compile("([a-z]+\\d*)_(\\d)_(\\w+)");
    private static final Pattern WORD = Pattern.compile("\\b(BAD|NULL|NOT|FULL|INDEX|CAST|STORE|SIZE|NONE)\\b");

    private static int wrong = 0;

    public static void main(String[] args) {
        List<Method> tests = new ArrayList<>();
        for (Class<? extends Boundaries> each : ALL) {
            tests.addAll(Boundaries.testsOf(each));
        }
        if (!Document.isThere()) {
            System.out.println("no ../shared/DOC.md here: the quotes of " + tests.size() + " tests are not looked up");
            return;
        }
        Document document = Document.read();
        for (Method test : tests) {
            leadsToItsSentence(test, document);
        }
        int sentences = 0;
        for (String place : document.sentences().keySet()) {
            for (int number = 1; !document.sentence(place, number).isEmpty(); number++) {
                hasTests(place + "_" + number + "_", document.sentence(place, number), tests);
                sentences++;
            }
        }
        System.out.println(tests.size() + " boundary tests of " + sentences + " sentences, " + wrong + " faults");
        if (wrong != 0 || sentences == 0) {
            System.exit(1);
        }
    }

    private static void leadsToItsSentence(Method test, Document document) {
        Matcher name = NAME.matcher(test.getName());
        boolean leads = name.matches()
            && document.sentence(name.group(1), Integer.parseInt(name.group(2))).contains(Boundaries.saidBy(test));
        if (!leads) {
            fault(test + " quotes what does not stand there: " + Boundaries.saidBy(test));
        }
    }

    private static void hasTests(String head, String sentence, List<Method> tests) {
        if (!hasTest(head, "", tests)) {
            fault("no test of " + head + ": " + sentence);
        }
        Matcher word = WORD.matcher(sentence);
        while (word.find()) {
            if (!hasTest(head, word.group(), tests)) {
                fault("no test of " + word.group() + " in " + head + ": " + sentence);
            }
        }
    }

    private static boolean hasTest(String head, String word, List<Method> tests) {
        for (Method test : tests) {
            if (test.getName().startsWith(head) && test.getName().contains(word)) {
                return true;
            }
        }
        return false;
    }

    private static void fault(String what) {
        wrong++;
        System.out.println(what);
    }
}
