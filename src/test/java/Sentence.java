import java.io.IOException;
import java.nio.file.Files;
import java.nio.file.Path;
import java.util.ArrayList;
import java.util.Arrays;
import java.util.HashMap;
import java.util.LinkedHashMap;
import java.util.List;
import java.util.Map;
import java.util.Set;

/**
 * A test of a sentence of the document, or of one case that it names: it tells where the sentence stands, and its words
 * as they are there, and makes calls that a class that broke them would answer in another way. In the end it is looked
 * up whether all words stand where they are said to, and whether any words with a promise in them are without a test.
 */
final class Sentence {
    private static final Path DOCUMENT = Path.of("../shared/DOC.md");
    private static final Set<String> WITHOUT_PROMISES = Set.of("Not promised");
    /** What tells of no case: what the whole is, what is free, labels, the names of methods, and words that only join. */
    private static final String WITHOUT_CASES = "(?:A bamboo scaffold on a tower: .*|what later calls answer is free|`[^`]*`"
        + "|Poles|Storeys|Crews|Lift|Signals|Inspectors|Texts|Reasons|Changes|Codes|Details|Examples|The constants"
        + "|The orders are|First|Last|and)";
    private static final String JOINTS = "[\\s.,;:|`]";

    private static final Map<String, List<String>> QUOTES = new LinkedHashMap<>();
    private static final Map<String, Integer> CASES = new HashMap<>();

    private Sentence() {
    }

    /** A place is a heading up to its colon; behind a comma may stand the promises that rest on the sentence. */
    static BambooTower holds(String place, String words, String... calls) {
        QUOTES.computeIfAbsent(place.split(",")[0], heading -> new ArrayList<>()).add(words);
        String test = place + ", \"" + words + "\"";
        int cases = CASES.merge(test, 1, Integer::sum);
        return Notation.run(cases == 1 ? test : test + ", case " + cases, calls);
    }

    static void checkDocument() throws IOException {
        QUOTES.forEach((heading, quotes) -> System.out.println(heading + ": " + quotes.size() + " tests"));
        if (!Files.exists(DOCUMENT)) {
            System.out.println(DOCUMENT + " is not there: whether the sentences stand in it was not looked up");
            return;
        }
        Map<String, List<String>> document = sections(Files.readAllLines(DOCUMENT));
        QUOTES.forEach((heading, quotes) -> standThere(heading, quotes, document.getOrDefault(heading, List.of())));
        document.keySet().removeAll(WITHOUT_PROMISES);
        document.forEach((heading, sentences) -> areHeld(heading, sentences, QUOTES.getOrDefault(heading, List.of())));
    }

    private static void standThere(String heading, List<String> quotes, List<String> sentences) {
        String text = String.join(" ", sentences);
        for (String quote : quotes) {
            Notation.due(heading + " says: " + quote, text.contains(quote) ? 1 : 0, 1);
        }
    }

    /** What no test quotes must be of those words that tell of no case. */
    private static void areHeld(String heading, List<String> sentences, List<String> quotes) {
        String text = String.join(" ", sentences);
        char[] left = text.toCharArray();
        for (String quote : quotes) {
            for (int at = text.indexOf(quote); at >= 0; at = text.indexOf(quote, at + 1)) {
                Arrays.fill(left, at, at + quote.length(), '\n');
            }
        }
        for (String words : new String(left).split("\n+")) {
            boolean isHeld = words.matches(JOINTS + "*(?:" + WITHOUT_CASES + JOINTS + "*)*");
            Notation.due("a test in " + heading + " of: " + words, isHeld ? 1 : 0, 1);
        }
    }

    /** The sentences below each heading, and their parts between semicolons, without what stands as code. */
    private static Map<String, List<String>> sections(List<String> lines) {
        Map<String, List<String>> sections = new HashMap<>();
        StringBuilder paragraph = new StringBuilder();
        String heading = "";
        boolean isCode = false;
        for (String line : lines) {
            boolean isFence = line.startsWith("```");
            isCode ^= isFence;
            boolean isText = !isCode && !isFence && !line.startsWith("#");
            if (!isText || line.isBlank() || line.startsWith("- ")) {
                split(sections.computeIfAbsent(heading, name -> new ArrayList<>()), paragraph);
            }
            if (isText) {
                paragraph.append(' ').append(line.replaceFirst("^- ", "").trim());
            }
            if (!isCode && line.startsWith("#")) {
                heading = line.replaceFirst("^#+ ", "").split(":")[0];
            }
        }
        split(sections.computeIfAbsent(heading, name -> new ArrayList<>()), paragraph);
        return sections;
    }

    private static void split(List<String> sentences, StringBuilder paragraph) {
        for (String sentence : paragraph.toString().trim().split("(?<=[.;])\\s+")) {
            if (!sentence.isBlank()) {
                sentences.add(sentence);
            }
        }
        paragraph.setLength(0);
    }
}
