import java.lang.reflect.Method;
import java.util.ArrayList;
import java.util.HashSet;
import java.util.List;
import java.util.Map;
import java.util.Set;
import java.util.regex.Matcher;
import java.util.regex.Pattern;

/** No word of the document's Terms and Promises stands outside of the sentences that have tests. */
public final class SentencesTest {
    private static final List<Class<?>> TESTS = List.of(EdgesTraysTest.class, EdgesTownTest.class,
            EdgesDaysTest.class, EdgesHeldTest.class, EdgesFlourTest.class, EdgesHandTest.class);

    private static List<String> quotesOf(String section) {
        List<String> quotes = new ArrayList<>();
        for (Class<?> tests : TESTS) {
            for (Method test : Edges.testsOf(tests)) {
                Sentence sentence = test.getAnnotation(Sentence.class);
                if (sentence.in().equals(section)) {
                    quotes.add(Document.plain(sentence.says()));
                }
            }
        }
        return quotes;
    }

    /** Which signs of a section stand in a quote. */
    private static boolean[] quoted(String text, List<String> quotes) {
        boolean[] seen = new boolean[text.length()];
        for (String quote : quotes) {
            for (int at = text.indexOf(quote); at >= 0; at = text.indexOf(quote, at + 1)) {
                for (int i = at; i < at + quote.length(); i++) {
                    seen[i] = true;
                }
            }
        }
        return seen;
    }

    private static void everyWordIsQuoted(String section, String text) {
        boolean[] seen = quoted(text, quotesOf(section));
        Matcher word = Pattern.compile("[A-Za-z0-9,']*[A-Za-z0-9]").matcher(text);
        while (word.find()) {
            String where = text.substring(Math.max(0, word.start() - 30), Math.min(text.length(), word.end() + 30));
            Check.due(section + ": " + word.group() + " has a test (.. " + where + " ..)",
                    seen[word.start()] && seen[word.end() - 1], true);
        }
    }

    private static void namesAreOfOneTest() {
        Set<String> names = new HashSet<>();
        for (Class<?> tests : TESTS) {
            for (Method test : Edges.testsOf(tests)) {
                Check.due(test.getName() + " is of one test alone", names.add(test.getName()), true);
            }
        }
        System.out.println(names.size() + " tests of sentences");
    }

    public static void main(String[] args) {
        for (Map.Entry<String, String> section : Document.sections().entrySet()) {
            everyWordIsQuoted(section.getKey(), section.getValue());
        }
        namesAreOfOneTest();
        Check.end();
    }
}
