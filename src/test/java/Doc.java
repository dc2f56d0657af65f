import java.nio.charset.StandardCharsets;
import java.nio.file.Files;
import java.nio.file.Path;
import java.util.ArrayList;
import java.util.BitSet;
import java.util.LinkedHashMap;
import java.util.List;
import java.util.Map;

/**
 * The document's own words. A test of an edge quotes the sentence that it is for; what no test has quoted in the end,
 * and what the document does not say (any more), is told as wrong.
 */
final class Doc {
    private static final Path FILE = Path.of("..", "shared", "DOC.md");
    private static final Map<String, String> PARTS = new LinkedHashMap<>();
    private static final Map<String, BitSet> QUOTED = new LinkedHashMap<>();
    private static final List<String> PLACES = new ArrayList<>();
    private static String latest = null;
    private static int madeBefore = 0;

    private Doc() {
    }

    static void read() throws Exception {
        String whole = Files.readString(FILE, StandardCharsets.UTF_8);
        for (String part : whole.split("(?m)^## ")) {
            int end = part.indexOf('\n');
            if (end < 0) {
                continue;
            }
            String heading = part.substring(0, end).trim();
            boolean numbered = heading.startsWith("Promise ");
            String name = numbered ? heading.substring(0, heading.indexOf(':')) : heading;
            String body = part.substring(end).replaceAll("```\\w*", " ").replaceAll("==== \\w+\\.", " ");
            if (numbered) {
                // Its signature is a matter of the face.
                body = body.replaceAll("`[^`]*`:", " ");
            }
            PARTS.put(name, body.replaceAll("\\s+", " ").trim());
            QUOTED.put(name, new BitSet());
        }
    }

    /** What is looked at from here on is for this sentence of the document. */
    static void says(String part, String quote) {
        endQuote();
        latest = part + ": " + quote;
        PLACES.add(testThatCalls() + " | " + latest);
        Check.now(latest);
        String text = PARTS.getOrDefault(part, "");
        int at = text.indexOf(quote);
        Check.isTrue("the document says so, once", at >= 0 && text.indexOf(quote, at + 1) < 0);
        if (at >= 0) {
            QUOTED.get(part).set(at, at + quote.length());
        }
        madeBefore = Check.made();
    }

    /** As says, but of the whole of a promise. */
    static void promises(int number, String whole) {
        says("Promise " + number, whole);
        Check.isTrue("the whole promise", whole.equals(PARTS.get("Promise " + number)));
        madeBefore = Check.made();
    }

    static void end() {
        endQuote();
        Check.now("all sentences");
        int promises = 0;
        for (Map.Entry<String, String> part : PARTS.entrySet()) {
            boolean numbered = part.getKey().startsWith("Promise ");
            if (numbered || part.getKey().equals("Terms")) {
                unquoted(part.getKey(), part.getValue(), QUOTED.get(part.getKey()));
                promises += numbered ? 1 : 0;
            }
        }
        Check.due("promises in the document", 30, promises);
    }

    /** Each sentence, behind the test in which it is looked at. */
    static void list() {
        for (String place : PLACES) {
            System.out.println(place);
        }
    }

    private static String testThatCalls() {
        return StackWalker.getInstance().walk(frames -> frames
                .filter(f -> f.getClassName().endsWith("Edges") && !f.getMethodName().equals("terms"))
                .findFirst().map(f -> f.getClassName() + "." + f.getMethodName()).orElse("?"));
    }

    private static void endQuote() {
        if (latest != null) {
            Check.isTrue("something is looked at", Check.made() > madeBefore);
        }
        latest = null;
    }

    private static void unquoted(String part, String text, BitSet quoted) {
        StringBuilder left = new StringBuilder();
        for (int i = 0; i < text.length(); i++) {
            if (quoted.get(i)) {
                if (left.length() > 0 && left.charAt(left.length() - 1) != '|') {
                    left.append('|');
                }
            } else if (Character.isLetterOrDigit(text.charAt(i))) {
                left.append(text.charAt(i));
            } else if (left.length() > 0 && text.charAt(i) == ' ') {
                left.append(' ');
            }
        }
        String words = left.toString().replaceAll("[| ]+", " ").trim();
        Check.isTrue(part + ", quoted by no test: " + words, words.isEmpty());
    }
}
