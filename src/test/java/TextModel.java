import java.util.ArrayList;
import java.util.HashMap;
import java.util.HashSet;
import java.util.List;
import java.util.Map;
import java.util.Set;
import java.util.regex.Matcher;
import java.util.regex.Pattern;

/** Reads a text as the document's grammar stands there and tells its first fault; keeps nothing of what it says. */
final class TextModel {
    /** Any other byte that is no blank is a token that is none. */
    private static final Pattern TOKEN = Pattern.compile("[a-z]+|[0-9]+|[^ \n]");
    private static final Map<String, Set<String>> VALUES = Map.of(
        "needs", Set.of("depth", "glare", "far", "crowd", "tired"),
        "trouble", Set.of("skill", "depth", "glare", "crowd", "far"),
        "game", Set.of("legs", "mouth", "waves", "screams"));

    /** 0: there is no fault. */
    final int fault;
    /** -1: there is no fault. */
    final int place;

    private final List<String> tokens = new ArrayList<>();
    private final List<Integer> starts = new ArrayList<>();
    private int at = 0;
    private int width = 8;
    private int height = 5;
    private final Map<String, Integer> lines = new HashMap<>();
    private final Set<String> toldCells = new HashSet<>();

    TextModel(String text) {
        Matcher matcher = TOKEN.matcher(text);
        while (matcher.find()) {
            tokens.add(matcher.group());
            starts.add(matcher.start());
        }
        tokens.add("");
        starts.add(text.length());
        int found = 0;
        try {
            lanes();
        } catch (Fault first) {
            found = first.kind;
        }
        fault = found;
        place = found == 0 ? -1 : starts.get(at);
    }

    private static final class Fault extends Exception {
        private static final long serialVersionUID = 1;
        final int kind;

        Fault(int kind) {
            this.kind = kind;
        }
    }

    private String token() {
        return tokens.get(at);
    }

    private boolean isNumber() {
        return token().matches("[0-9]+");
    }

    private boolean isWord() {
        return token().matches("[a-z]+");
    }

    /** The fault is at the token that is being looked at. */
    private void unless(boolean holds, int kind) throws Fault {
        if (!holds) {
            throw new Fault(kind);
        }
    }

    private boolean skip(String wanted) {
        if (!token().equals(wanted)) {
            return false;
        }
        at++;
        return true;
    }

    private void want(String wanted) throws Fault {
        unless(token().equals(wanted), 1);
        at++;
    }

    private int look(int least, int most) throws Fault {
        unless(isNumber(), 1);
        unless(token().length() <= 4, 2);
        int number = Integer.parseInt(token());
        unless(number >= least && number <= most, 2);
        return number;
    }

    private int number(int least, int most) throws Fault {
        int number = look(least, most);
        at++;
        return number;
    }

    private void lanes() throws Fault {
        if (skip("pool")) {
            width = number(1, 8);
            height = number(1, 5);
            want(";");
        }
        while (at < tokens.size() - 1) {
            line();
            want(";");
        }
    }

    private void line() throws Fault {
        String word = token();
        switch (word) {
            case "deep": at++; cell(word); number(1, 9); break;
            case "glare": at++; cell(word); number(0, 9); break;
            case "swimmer": begin(12, 2); cell(""); number(0, 9); break;
            case "look": begin(12, 2); cell(""); number(1, 9); break;
            case "chair": begin(1, 5); cell(""); break;
            case "last": begin(1, 5); number(1, 300); break;
            case "tire": begin(1, 5); number(1, 99); break;
            case "case": begin(10, 2); seen(); break;
            case "needs": case "trouble": begin(1, 5); expr(word, 0); break;
            case "game": begin(4, 2); expr(word, 0); break;
            default: unless(false, 1);
        }
    }

    /** The first token of a line of which there may be so many. */
    private void begin(int most, int kind) throws Fault {
        unless(lines.getOrDefault(token(), 0) < most, kind);
        lines.merge(token(), 1, Integer::sum);
        at++;
    }

    /** A cell may be told once by each word that is not empty. */
    private void cell(String word) throws Fault {
        int x = number(0, width - 1);
        int y = look(0, height - 1);
        unless(word.isEmpty() || toldCells.add(word + " " + x + " " + y), 4);
        at++;
    }

    private void seen() throws Fault {
        for (int i = 0; i < 4; i++) {
            number(0, 9);
        }
        unless(skip("trouble") || skip("fun"), 1);
    }

    private void expr(String rule, int within) throws Fault {
        boolean begins = isNumber() || isWord() || token().equals("(");
        unless(within < 6 || !begins, 2);
        do {
            and(rule, within);
        } while (skip("or"));
    }

    private void and(String rule, int within) throws Fault {
        do {
            not(rule, within, 1);
        } while (skip("and"));
    }

    private void not(String rule, int within, int which) throws Fault {
        if (token().equals("not")) {
            unless(which < 7, 2);
            at++;
            not(rule, within, which + 1);
            return;
        }
        sum(rule, within);
        if (skip("<") || skip("=")) {
            sum(rule, within);
        }
    }

    private void sum(String rule, int within) throws Fault {
        do {
            part(rule, within);
        } while (skip("+") || skip("-") || skip("*") || skip("/"));
    }

    private void part(String rule, int within) throws Fault {
        if (isNumber()) {
            number(0, 9999);
        } else if (isWord()) {
            unless(VALUES.get(rule).contains(token()), 3);
            at++;
        } else {
            want("(");
            expr(rule, within + 1);
            want(")");
        }
    }
}
