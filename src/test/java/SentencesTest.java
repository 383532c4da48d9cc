import java.io.IOException;
import java.lang.reflect.Method;
import java.nio.file.Files;
import java.nio.file.Path;
import java.util.ArrayList;
import java.util.List;
import java.util.Map;
import java.util.TreeMap;
import java.util.regex.Matcher;
import java.util.regex.Pattern;

/** Each sentence of the document has a test of its own, and each test of a boundary quotes the document. */
public final class SentencesTest {
    private static final Check CHECK = new Check();
    private static final int PROMISES = 46;
    private static final List<Class<?>> TESTS = List.of(EdgesOfTermsTest.class, EdgesOfPeopleTest.class,
        EdgesOfLikenessTest.class, EdgesOfYearsTest.class, EdgesOfOnTest.class, EdgesOfWhatToChangeTest.class,
        EdgesOfTextTest.class, EdgesOfSheetsTest.class, EdgesOfImagesTest.class);

    public static void main(String[] args) throws IOException {
        Map<Integer, String> sections = sections(Files.readString(Path.of("../shared/DOC.md")));
        Map<Integer, List<Says>> quotes = new TreeMap<>();
        for (Class<?> test : TESTS) {
            for (Method m : test.getDeclaredMethods()) {
                Says says = m.getAnnotation(Says.class);
                if (says != null) {
                    isNamedByItsPromise(m, says.promise());
                    quotes.computeIfAbsent(says.promise(), p -> new ArrayList<>()).add(says);
                }
            }
        }
        for (int promise = 0; promise <= PROMISES; promise++) {
            compare(promise, sections.getOrDefault(promise, ""), quotes.getOrDefault(promise, List.of()));
        }
        CHECK.end();
    }

    private static void isNamedByItsPromise(Method m, int promise) {
        String pattern = promise == 0 ? "[ts].*" : String.format("p%02d.*", promise);
        CHECK.holds(m.getName() + " is named by promise " + promise, m.getName().matches(pattern));
    }

    private static void compare(int promise, String section, List<Says> quotes) {
        for (Says says : quotes) {
            for (String quote : says.text()) {
                CHECK.holds("promise " + promise + " says '" + quote + "'", section.contains(quote));
            }
        }
        for (String sentence : section.split("(?<=[^.]\\.) ")) {
            boolean isTested = false;
            for (Says says : quotes) {
                isTested |= isOfAlone(sentence, says);
            }
            CHECK.holds("promise " + promise + " has a test of '" + sentence + "' alone", isTested);
        }
    }

    private static boolean isOfAlone(String sentence, Says says) {
        for (String quote : says.text()) {
            if (!sentence.contains(quote)) {
                return false;
            }
        }
        return true;
    }

    /** By promise what it says; 0: what is said ahead of the promises of how things are and how often they are used. */
    private static Map<Integer, String> sections(String doc) {
        Map<Integer, String> sections = new TreeMap<>();
        Matcher matcher = Pattern.compile("## Promise (\\d+):[^\n]*\n\n`[^`]*`: ([^\n]*)\n").matcher(doc);
        while (matcher.find()) {
            sections.put(Integer.parseInt(matcher.group(1)), matcher.group(2));
        }
        StringBuilder ahead = new StringBuilder();
        String calls = "An object is used for at most";
        ahead.append(doc, doc.indexOf(calls), doc.indexOf("## The public face"));
        String terms = doc.substring(doc.indexOf("## Terms"), doc.indexOf("## Promise 1:"));
        for (String line : terms.split("\n")) {
            if (!line.matches("## .*|```.*|Ahead of the calls .*")) {
                ahead.append(' ').append(line.replaceFirst("^\\d\\. ", ""));
            }
        }
        sections.put(0, ahead.toString().replaceAll("\\s+", " ").trim());
        return sections;
    }
}
