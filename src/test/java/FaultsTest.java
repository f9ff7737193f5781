import java.util.ArrayList;
import java.util.List;
import java.util.Random;
import java.util.regex.Matcher;
import java.util.regex.Pattern;

/** Random texts, most of them spoilt: lanes() and fault() answer as the slow reader does. */
public final class FaultsTest {
    private static final Checks CHECKS = new Checks("FaultsTest");
    private static final int TEXTS = 20000;
    private static final Pattern PIECE = Pattern.compile("[a-z]+|[0-9]+|[^ \n]");
    private static final String[] PIECES = {"pool", "deep", "glare", "swimmer", "chair", "look", "last", "tire", "case",
        "needs", "trouble", "game", "fun", "or", "and", "not", "depth", "far", "crowd", "tired", "skill", "legs", "mouth",
        "waves", "screams", "whale", "a", ";", "(", ")", "+", "-", "*", "/", "<", "=", "0", "1", "4", "5", "8", "9", "10",
        "99", "100", "300", "301", "9999", "0009", "00009", "12345678901", "#", "A", "\t", "\r", "\0", "\u00e9"};
    /** Lines that may already have been told, or may not come too often. */
    private static final String[] LINES = {"needs 1;", "trouble 1;", "game 1;", "deep 0 0 1;", "glare 0 0 1;", "chair 0 0;",
        "last 1;", "tire 1;", "swimmer 0 0 1;", "look 0 0 1;", "case 1 1 1 1 fun;"};

    public static void main(String[] args) {
        int[] seen = new int[6];
        for (int seed = 0; seed < TEXTS; seed++) {
            Random random = new Random(seed);
            String text = text(random);
            TextModel want = new TextModel(text);
            seen[want.fault]++;
            LaneEyes eyes = new LaneEyes();
            CHECKS.due("seed " + seed + " lanes of " + text, want.fault, Checks.tell(eyes, text));
            CHECKS.due("seed " + seed + " place in " + text, want.place, eyes.fault());
            CHECKS.due("seed " + seed + " refused", want.fault == 0 ? 0 : 1, eyes.count(15));
        }
        for (int fault = 0; fault < seen.length; fault++) {
            CHECKS.due("fault " + fault + " is met often", true, seen[fault] >= TEXTS / 100);
        }
        CHECKS.end();
    }

    private static String text(Random random) {
        List<String> pieces = new ArrayList<>();
        addPieces(pieces, new Model(random).text);
        for (int i = random.nextInt(4); i > 1; i--) {
            addPieces(pieces, LINES[random.nextInt(LINES.length)]);
        }
        for (int i = random.nextInt(3); i > 0; i--) {
            spoil(pieces, random);
        }
        String text = joined(pieces, random);
        return text.length() > 700 ? text.substring(0, 700) : text;
    }

    private static void addPieces(List<String> pieces, CharSequence text) {
        Matcher matcher = PIECE.matcher(text);
        while (matcher.find()) {
            pieces.add(matcher.group());
        }
    }

    private static void spoil(List<String> pieces, Random random) {
        int at = random.nextInt(pieces.size() + 1);
        String piece = PIECES[random.nextInt(PIECES.length)];
        if (at == pieces.size()) {
            pieces.add(piece);
            return;
        }
        switch (random.nextInt(7)) {
            case 0: pieces.remove(at); break;
            case 1: pieces.add(at, piece); break;
            case 2: pieces.set(at, piece); break;
            case 3: pieces.subList(at, pieces.size()).clear(); break;
            case 4: repeat(pieces, at, "not", random.nextInt(9)); break;
            case 5: repeat(pieces, at, random.nextBoolean() ? "(" : ")", random.nextInt(8)); break;
            default: tellAgain(pieces, at); break;
        }
    }

    private static void repeat(List<String> pieces, int at, String piece, int times) {
        for (int i = 0; i < times; i++) {
            pieces.add(at, piece);
        }
    }

    /** The line in which a piece stands comes once more, behind all. */
    private static void tellAgain(List<String> pieces, int at) {
        int from = at;
        while (from > 0 && !pieces.get(from - 1).equals(";")) {
            from--;
        }
        int to = at;
        while (to < pieces.size() && !pieces.get(to).equals(";")) {
            to++;
        }
        pieces.addAll(new ArrayList<>(pieces.subList(from, to)));
        pieces.add(";");
    }

    /** Words and numbers keep a blank between two of a kind; elsewhere blanks are left to chance. */
    private static String joined(List<String> pieces, Random random) {
        StringBuilder text = new StringBuilder();
        for (String piece : pieces) {
            if (text.length() > 0 && (sameKind(text.charAt(text.length() - 1), piece.charAt(0)) || random.nextInt(6) == 0)) {
                text.append(random.nextInt(5) == 0 ? "\n" : " ");
            }
            text.append(piece);
        }
        return text.append(random.nextInt(5) == 0 ? "  " : "").toString();
    }

    private static boolean sameKind(char one, char other) {
        return isLetter(one) && isLetter(other) || isDigit(one) && isDigit(other);
    }

    private static boolean isLetter(char sign) {
        return sign >= 'a' && sign <= 'z';
    }

    private static boolean isDigit(char sign) {
        return sign >= '0' && sign <= '9';
    }
}
