import java.io.IOException;
import java.nio.file.Files;
import java.nio.file.Path;
import java.util.ArrayList;
import java.util.BitSet;
import java.util.List;
import java.util.regex.Matcher;
import java.util.regex.Pattern;

/** The document by its promises, and which of its sentences the tests hold. */
final class Document {
    private static final int PROMISES = 40;

    /** Words that name a boundary: a range, an end, a refusal, what comes first, what is rounded. */
    private static final Pattern BOUNDARY = Pattern.compile("\\d+ \\.\\. ?\\d*|\\d to \\d|at (most|least|first)\\b|\\bcut\\b|\\(up\\)"
        + "|of like|wrap|\\bnone\\b|toward 0|too early|(one|0) or more|(above|below) (0|3|60)|no more|No blanks"
        + "|the (first|latest|lowest)|as they (come|began|all)|missing|within|\\b512\\b|\\(body -1\\)|of thing -1|\\bc 0\\b"
        + "|\\b(NOT|FULL|BAD|STATE|VOID|BIG)\\b|-1[1-4]\\b|MIN_VALUE|no (such|TRACE|THING)|without THINGS");

    /** Each promise's text behind its head; at 0 all that stands ahead of the promises, but for the face. */
    private static final List<String> PARTS = new ArrayList<>();
    private static final List<BitSet> HELD = new ArrayList<>();

    private Document() {
    }

    static void read(Path path) throws IOException {
        String text = Files.readString(path).replaceAll("(?s)```java.*?```", " ").replaceAll("```(text)?", " ");
        String whole = text.replaceAll("\\s+", " ").replaceAll(" ## Not promised.*", "");
        for (String part : whole.split(" ## Promise \\d+: ")) {
            PARTS.add(part);
            HELD.add(new BitSet());
        }
        if (PARTS.size() != PROMISES + 1) {
            throw new IllegalStateException("not the document: " + path);
        }
    }

    /** Whether the sentence stands, once, in the promise, or else in what all promises share; it is held then. */
    static boolean holds(int promise, String sentence) {
        int part = PARTS.get(promise).contains(sentence) ? promise : 0;
        String text = PARTS.get(part);
        int at = text.indexOf(sentence);
        if (at < 0 || text.indexOf(sentence, at + 1) >= 0) {
            return false;
        }
        HELD.get(part).set(at, at + sentence.length());
        return true;
    }

    /** The places that name a boundary, and stand in no sentence that a test holds. */
    static List<String> leftOut() {
        List<String> left = new ArrayList<>();
        for (int part = 0; part <= PROMISES; part++) {
            String text = PARTS.get(part);
            if (HELD.get(part).isEmpty()) {
                left.add("promise " + part + " as a whole");
            }
            Matcher found = BOUNDARY.matcher(text);
            while (found.find()) {
                if (HELD.get(part).nextClearBit(found.start()) < found.end()) {
                    int from = Math.max(0, found.start() - 30);
                    left.add((part == 0 ? "terms" : "promise " + part) + ": .. "
                        + text.substring(from, Math.min(text.length(), found.end() + 30)) + " ..");
                }
            }
        }
        return left;
    }
}
