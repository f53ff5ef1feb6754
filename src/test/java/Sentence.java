import java.io.IOException;
import java.nio.file.Files;
import java.nio.file.Path;
import java.util.BitSet;
import java.util.Map;
import java.util.TreeMap;

/**
 * The sentences of the document. A test at the edges begins with the sentence that it would see
 * broken, in the document's own words; at the end no sentence may be left without a test.
 */
final class Sentence {
    private static final Path DOC = Path.of("..", "shared", "DOC.md");
    private static final Map<String, String> TEXTS = sections();
    private static final Map<String, BitSet> TESTED = new TreeMap<>();

    private Sentence() {
    }

    /** A new object for the test of a sentence; the section is I to IV, a promise's number, or a name. */
    static Check of(String section, String quote) {
        Check c = new Check(section + " '" + quote + "'");
        if (TEXTS.isEmpty()) {
            return c;
        }
        String text = TEXTS.getOrDefault(section, "");
        int at = text.indexOf(quote);
        c.due("the document has this sentence", at >= 0 ? 1 : 0, 1);
        BitSet tested = TESTED.computeIfAbsent(section, s -> new BitSet());
        while (at >= 0) {
            tested.set(at, at + quote.length());
            at = text.indexOf(quote, at + 1);
        }
        return c;
    }

    /** Like of, with a town, the law that lets all be told, and FIRST ones. */
    static Check told(String section, String quote, String town, int talks, int first) {
        Check c = of(section, quote);
        c.town(town, talks).law("tell 1=1", 0);
        c.x.first(first);
        return c;
    }

    static void allTested() {
        Check c = new Check("sentences without a test");
        for (Map.Entry<String, String> section : TEXTS.entrySet()) {
            BitSet tested = TESTED.getOrDefault(section.getKey(), new BitSet());
            StringBuilder left = new StringBuilder();
            for (int i = 0; i < section.getValue().length(); i++) {
                left.append(tested.get(i) ? '\n' : section.getValue().charAt(i));
            }
            for (String part : left.toString().split("\n+")) {
                boolean says = part.chars().anyMatch(Character::isLetterOrDigit);
                c.due(section.getKey() + " '" + part + "'", says ? 1 : 0, 0);
            }
        }
    }

    private static Map<String, String> sections() {
        Map<String, String> texts = new TreeMap<>();
        if (!Files.exists(DOC)) {
            // The answers are looked at all the same.
            System.out.println(DOC + " is not there: the sentences are not compared with it");
            return texts;
        }
        String doc;
        try {
            doc = Files.readString(DOC).replace("```text", " ").replace("```", " ").replaceAll("\\s+", " ");
        } catch (IOException e) {
            throw new IllegalStateException(DOC + " can't be read", e);
        }
        texts.put("life", between(doc, "==== I. ", " ## The public face"));
        texts.put("I", between(doc, "## Terms ", "==== II. "));
        texts.put("II", between(doc, "==== II. ", "==== III. "));
        texts.put("III", between(doc, "==== III. ", "==== IV. "));
        texts.put("IV", between(doc, "==== IV. ", "The constants: "));
        texts.put("constants", between(doc, "The constants: ", "## Promise 1:"));
        for (int n = 1; n <= 40; n++) {
            String promise = between(doc, "## Promise " + n + ": ", n < 40 ? "## Promise " + (n + 1) + ":" : "## Not");
            texts.put(String.valueOf(n), promise.substring(promise.indexOf("`: ") + 3));
        }
        return texts;
    }

    private static String between(String doc, String from, String till) {
        int start = doc.indexOf(from) + from.length();
        int stop = doc.indexOf(till, start);
        if (start < from.length() || stop < 0) {
            throw new IllegalStateException("the document has no part from '" + from + "' till '" + till + "'");
        }
        return doc.substring(start, stop);
    }
}
