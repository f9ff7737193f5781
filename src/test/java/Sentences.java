import java.io.IOException;
import java.nio.charset.StandardCharsets;
import java.nio.file.Files;
import java.nio.file.Path;
import java.util.ArrayList;
import java.util.List;

/**
 * Checks that quote the sentence of ../shared/DOC.md they are about. A quote that the document hasn't (any more),
 * a sentence without a check and a part of the document without a sentence are wrong too.
 */
final class Sentences extends Checks {
    private static final int TERMS = 4;
    private static final int PROMISES = 40;

    /** Terms 1 to 4 first, then promises 1 to 40; blanks and ends of lines are one blank. */
    private final List<String> parts = new ArrayList<>();
    /** True where a sign of a part stands in a quote. */
    private final List<boolean[]> quoted = new ArrayList<>();
    private String open = "";
    private int madeBefore = 0;

    Sentences(String test) throws IOException {
        super(test);
        String doc = Files.readString(Path.of("../shared/DOC.md"), StandardCharsets.ISO_8859_1).replaceAll("\\s+", " ");
        String from = "## Terms ";
        for (int term = 2; term <= TERMS; term++) {
            add(doc, from, " ==== " + term + ".");
            from = " ==== " + term + ".";
        }
        add(doc, from, "## Promise 1:");
        for (int promise = 1; promise <= PROMISES; promise++) {
            add(doc, "## Promise " + promise + ":", promise < PROMISES ? "## Promise " + (promise + 1) + ":" : "## Not promised");
        }
    }

    private void add(String doc, String from, String to) {
        int start = doc.indexOf(from);
        int end = doc.indexOf(to, Math.max(0, start));
        due("the document has " + from, true, start >= 0 && end > start);
        String part = start >= 0 && end > start ? doc.substring(start + from.length(), end).trim() : "";
        parts.add(part);
        quoted.add(new boolean[part.length()]);
    }

    /** The checks that follow are about this sentence of the Terms. */
    void term(int term, String quote) {
        sentence("Terms " + term, term - 1, quote);
    }

    /** The checks that follow are about this sentence of a promise. */
    void promise(int promise, String quote) {
        sentence("Promise " + promise, TERMS + promise - 1, quote);
    }

    private void sentence(String where, int part, String quote) {
        closeSentence();
        open = where + " '" + quote + "'";
        about(open);
        int at = parts.get(part).indexOf(quote);
        due("stands in the document", true, at >= 0);
        for (int i = 0; at >= 0 && i < quote.length(); i++) {
            quoted.get(part)[at + i] = true;
        }
        madeBefore = made();
    }

    private void closeSentence() {
        if (!open.isEmpty()) {
            due("has a check", true, made() > madeBefore);
        }
    }

    void endSentences(boolean showRest) {
        closeSentence();
        about("");
        for (int part = 0; part < parts.size(); part++) {
            String rest = restOf(part);
            due("part " + part + " is quoted", true, rest.length() < parts.get(part).length());
            if (showRest) {
                System.out.println((part < TERMS ? "Terms " + (part + 1) : "Promise " + (part - TERMS + 1)) + ": " + rest);
            }
        }
        end();
    }

    private String restOf(int part) {
        StringBuilder rest = new StringBuilder();
        for (int i = 0; i < parts.get(part).length(); i++) {
            rest.append(quoted.get(part)[i] ? "" : parts.get(part).charAt(i));
        }
        return rest.toString();
    }

    void noFault(String text) {
        fault(text, 0, -1);
    }

    void fault(String text, int fault, int place) {
        LaneEyes eyes = new LaneEyes();
        due("lanes of \"" + text + "\"", fault, tell(eyes, text));
        due("fault() of \"" + text + "\"", place, eyes.fault());
    }
}
