import java.io.IOException;
import java.nio.file.Files;
import java.nio.file.Path;
import java.util.ArrayList;
import java.util.Arrays;
import java.util.List;
import java.util.regex.Matcher;
import java.util.regex.Pattern;

/** The tests' sentences stand in the document, under their promise or its terms, and no sentence is without a test. */
public final class QuotesTest {
    private static final int PROMISES = 25;
    private static final Path DOCUMENT = Path.of("../shared/DOC.md");
    private static final String[] TESTS = {
        "LandEdgesTest", "WaysEdgesTest", "DepotsEdgesTest", "WordsEdgesTest", "RefusedTest",
    };
    private static final Pattern EDGE = Pattern.compile("Check\\.edge\\((\\d+), \"([^\"\\\\]*)\"\\);");

    private final String terms;
    private final boolean[] termsTold;
    private final String whatItIs;

    private QuotesTest(String document) {
        terms = section(document, "Terms").replaceAll("(?m)^Ahead of the calls .*$|^======== \\d+|```(text)?", "");
        termsTold = new boolean[terms.length()];
        whatItIs = section(document, "What it is");
    }

    public static void main(String[] args) throws IOException {
        String document = Files.readString(DOCUMENT);
        QuotesTest test = new QuotesTest(document);
        List<List<String>> quotes = quotes();
        for (int promise = 1; promise <= PROMISES; promise++) {
            test.look(promise, quotes.get(promise), section(document, "Promise " + promise + ": [^\n]*"));
        }
        Check.dueText("what no test quotes of the terms", untold(test.terms, test.termsTold), "");
        Check.end();
    }

    private static List<List<String>> quotes() throws IOException {
        List<List<String>> all = new ArrayList<>();
        for (int promise = 0; promise <= PROMISES; promise++) {
            all.add(new ArrayList<>());
        }
        for (String test : TESTS) {
            Matcher edge = EDGE.matcher(Files.readString(Path.of("src/test/java/" + test + ".java")));
            while (edge.find()) {
                all.get(Integer.parseInt(edge.group(1))).add(edge.group(2));
            }
        }
        return all;
    }

    private static String section(String document, String heading) {
        Matcher section = Pattern.compile("(?ms)^## " + heading + "\n(.*?)(?=^## |\\z)").matcher(document);
        Check.due("there is a section " + heading, section.find() ? 1 : 0, 1);
        // What the promise says stands behind its call.
        return section.group(1).replaceFirst("(?s)\\A\\s*`[^`]*`:", "");
    }

    private void look(int promise, List<String> quotes, String text) {
        boolean[] told = new boolean[text.length()];
        for (String quote : quotes) {
            int found = mark(quote, text, told) + mark(quote, terms, termsTold) + (whatItIs.contains(quote) ? 1 : 0);
            Check.due("promise " + promise + " says '" + quote + "'", found > 0 ? 1 : 0, 1);
        }
        Check.dueText("what no test quotes of promise " + promise, untold(text, told), "");
    }

    private static int mark(String quote, String text, boolean[] told) {
        int found = 0;
        for (int at = text.indexOf(quote); at >= 0; at = text.indexOf(quote, at + 1)) {
            Arrays.fill(told, at, at + quote.length(), true);
            found++;
        }
        return found;
    }

    private static String untold(String text, boolean[] told) {
        StringBuilder rest = new StringBuilder();
        for (int i = 0; i < text.length(); i++) {
            boolean counts = Character.isLetterOrDigit(text.charAt(i)) && !told[i];
            rest.append(counts ? text.charAt(i) : ' ');
        }
        return rest.toString().trim().replaceAll(" +", " ");
    }
}
