import java.io.IOException;
import java.nio.charset.StandardCharsets;
import java.nio.file.Files;
import java.nio.file.Path;
import java.util.BitSet;
import java.util.Map;
import java.util.TreeMap;
import java.util.regex.Matcher;
import java.util.regex.Pattern;

/**
 * Holds the tests' sentences against the document: each stands there, in its promise or in the Terms, and
 * no word of a boundary stands there outside of all of them.
 */
final class Sentences {
    private static final Path DOCUMENT = Path.of("../shared/DOC.md");
    private static final int TERMS = 0;
    private static final Pattern HEADING = Pattern.compile("(?m)^## (?:Promise (\\d+): .*|Terms|Not promised)$");
    /** The head of a promise, and the lines between the Terms and the promises: they promise nothing. */
    private static final Pattern HEAD = Pattern.compile("(?m)^`[^`\n]+`:|^Ahead of the calls .*$");
    private static final Pattern BOUNDARY = Pattern.compile("\\b(BAD|FULL|NULL|NOT|NONE|CAST|INDEX|STORE|SIZE|LOST|\\d+ to \\d+|\\d+ at most|three at most"
        + "|at first|beyond|below|above|least|fewest|first|last|empty|never|wrap|at 60|60 on|stays|before any|as they were|what it was)\\b");

    private final Map<Integer, String> parts = new TreeMap<>();
    private final Map<Integer, BitSet> covered = new TreeMap<>();
    private int wrong = 0;

    /** How many sentences of tests are not the document's, and boundaries of the document no test's. */
    static int unlike() throws IOException {
        if (!Files.isReadable(DOCUMENT)) {
            System.out.println("no document to hold the sentences against");
            return 0;
        }
        Sentences held = new Sentences(Files.readString(DOCUMENT, StandardCharsets.UTF_8));
        for (int i = 0; i < Edges.SENTENCES.size(); i++) {
            held.cover(Edges.PROMISES.get(i), Edges.SENTENCES.get(i));
        }
        held.lookForBoundaries();
        return held.wrong;
    }

    private Sentences(String document) {
        Matcher heading = HEADING.matcher(document);
        int part = -1;
        int from = 0;
        while (heading.find()) {
            keep(part, document.substring(from, heading.start()));
            part = heading.group(1) != null ? Integer.parseInt(heading.group(1)) : heading.group().endsWith("Terms") ? TERMS : -1;
            from = heading.end();
        }
        // The first sentence of all stands ahead of the Terms.
        parts.merge(TERMS, "MINUTES are 0 to 59; 60 is never.", (terms, first) -> terms + first);
        parts.forEach((number, text) -> covered.put(number, new BitSet(text.length())));
    }

    private void keep(int part, String text) {
        if (part >= 0) {
            parts.put(part, HEAD.matcher(text).replaceAll(""));
        }
    }

    private void cover(int promise, String sentence) {
        boolean found = coverIn(promise, sentence) || coverIn(TERMS, sentence);
        if (!found) {
            wrong++;
            System.out.println("neither promise " + promise + " nor the Terms say \"" + sentence + "\"");
        }
    }

    private boolean coverIn(int part, String sentence) {
        int at = parts.getOrDefault(part, "").indexOf(sentence);
        if (at >= 0) {
            covered.get(part).set(at, at + sentence.length());
        }
        return at >= 0;
    }

    private void lookForBoundaries() {
        parts.forEach((part, text) -> {
            Matcher word = BOUNDARY.matcher(text);
            while (word.find()) {
                if (!covered.get(part).get(word.start())) {
                    wrong++;
                    System.out.println("no test for \"" + word.group() + "\" of " + (part == TERMS ? "the Terms" : "promise " + part) + ": .."
                        + text.substring(Math.max(0, word.start() - 40), Math.min(text.length(), word.end() + 30)).replace('\n', ' '));
                }
            }
        });
        for (int promise = 1; promise <= 34; promise++) {
            if (!Edges.PROMISES.contains(promise)) {
                wrong++;
                System.out.println("no test for promise " + promise);
            }
        }
    }
}
