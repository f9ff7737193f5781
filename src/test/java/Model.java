import java.util.ArrayDeque;
import java.util.ArrayList;
import java.util.Arrays;
import java.util.Collections;
import java.util.Deque;
import java.util.List;
import java.util.Map;
import java.util.Random;
import java.util.TreeMap;
import java.util.TreeSet;

/** The document once more, as slow and plain as can be, and random texts that tell such a pool. */
final class Model {
    static final int NEVER = 1_000_000;

    /** An expression that knows how it is written and what it gives. */
    interface Expr {
        int of(Map<String, Integer> values);
    }

    static final class Written {
        final String text;
        final Expr expr;

        Written(String text, Expr expr) {
            this.text = text;
            this.expr = expr;
        }
    }

    final Random random;
    int w = 8;
    int h = 5;
    int last = 60;
    int tire = 20;
    final int[] depth = new int[40];
    final int[] glare = new int[40];
    final List<Integer> skills = new ArrayList<>();
    Written needs = null;
    Written trouble = null;
    final List<Written> games = new ArrayList<>();
    final List<int[]> cases = new ArrayList<>();
    State state = new State();
    State image = null;
    final StringBuilder text = new StringBuilder();

    /** What an image keeps. */
    static final class State {
        List<Integer> at = new ArrayList<>();
        int chair = 0;
        List<int[]> looks = new ArrayList<>();
        int minutes = 0;
        Deque<State> acts = new ArrayDeque<>();
        List<Integer> dummies = new ArrayList<>();
        List<int[]> heads = new ArrayList<>();

        State copy() {
            State copy = new State();
            copy.at = new ArrayList<>(at);
            copy.chair = chair;
            for (int[] look : looks) {
                copy.looks.add(look.clone());
            }
            copy.minutes = minutes;
            copy.acts = new ArrayDeque<>(acts);
            copy.dummies = new ArrayList<>(dummies);
            copy.heads = new ArrayList<>(heads);
            return copy;
        }
    }

    Model(Random random) {
        this.random = random;
        Arrays.fill(depth, 3);
        if (chance(80)) {
            w = 1 + random.nextInt(chance(70) ? 4 : 8);
            h = 1 + random.nextInt(chance(70) ? 3 : 5);
            text.append("pool " + w + " " + h + ";");
        }
        List<String> lines = new ArrayList<>();
        for (int i = random.nextInt(4); i > 0; i--) {
            tellDepths(lines);
        }
        if (chance(70)) {
            state.chair = random.nextInt(w * h);
            lines.add("chair " + spot(state.chair));
        }
        if (chance(80)) {
            last = 1 + random.nextInt(chance(80) ? 30 : 300);
            lines.add("last " + last);
        }
        if (chance(60)) {
            tire = 1 + random.nextInt(99);
            lines.add("tire " + tire);
        }
        if (chance(70)) {
            needs = chance(40) ? simpleNeeds() : written(0, "depth", "glare", "far", "crowd", "tired");
            lines.add("needs " + needs.text);
        }
        if (chance(60)) {
            trouble = written(0, "skill", "depth", "glare", "crowd", "far");
            lines.add("trouble " + trouble.text);
        }
        Collections.shuffle(lines, random);
        for (String line : lines) {
            tell(line);
        }
        tellRest();
    }

    private void tellDepths(List<String> lines) {
        int cell = random.nextInt(w * h);
        boolean deep = chance(50);
        if (deep && depth[cell] == 3) {
            depth[cell] = 1 + random.nextInt(9);
            if (depth[cell] != 3) {
                lines.add("deep " + spot(cell) + " " + depth[cell]);
            }
        } else if (!deep && glare[cell] == 0) {
            glare[cell] = 1 + random.nextInt(chance(70) ? 3 : 9);
            lines.add("glare " + spot(cell) + " " + glare[cell]);
        }
    }

    private void tellRest() {
        int lookCells = 1 + random.nextInt(Math.min(5, w * h));
        for (int i = random.nextInt(chance(80) ? 6 : 13); i > 0; i--) {
            int[] look = {random.nextInt(lookCells), 1 + random.nextInt(9)};
            if (tell("look " + spot(look[0]) + " " + look[1])) {
                state.looks.add(look);
            }
        }
        for (int i = random.nextInt(chance(80) ? 5 : 13); i > 0; i--) {
            int cell = random.nextInt(chance(80) ? lookCells : w * h);
            int skill = random.nextInt(10);
            if (tell("swimmer " + spot(cell) + " " + skill)) {
                state.at.add(cell);
                skills.add(skill);
            }
        }
        for (int i = random.nextInt(5); i > 0; i--) {
            Written game = written(0, "legs", "mouth", "waves", "screams");
            if (tell("game " + game.text)) {
                games.add(game);
            }
        }
        for (int i = random.nextInt(11); i > 0; i--) {
            int[] one = {random.nextInt(10), random.nextInt(10), random.nextInt(10), random.nextInt(10), random.nextInt(2)};
            if (tell("case " + one[0] + " " + one[1] + " " + one[2] + "\n" + one[3] + (one[4] == 1 ? " trouble" : " fun"))) {
                cases.add(one);
            }
        }
    }

    private boolean tell(String line) {
        if (text.length() + line.length() + 1 > 700) {
            return false;
        }
        text.append(line).append(';');
        return true;
    }

    private String spot(int cell) {
        return cell % w + " " + cell / w;
    }

    boolean chance(int percent) {
        return random.nextInt(100) < percent;
    }

    // ---- expressions: level 0 or, 1 and, 2 not, 3 sum, 4 product, 5 part

    private Written simpleNeeds() {
        int number = 1 + random.nextInt(4);
        String name = new String[] {"far", "crowd", "tired"}[random.nextInt(3)];
        return new Written(number + "+" + name + "/2", values -> number + values.get(name) / 2);
    }

    private Written written(int within, String... names) {
        return level(0, within, names);
    }

    private Written level(int level, int within, String... names) {
        if (level == 2) {
            return negation(within, names);
        }
        if (level == 5) {
            return part(within, names);
        }
        Written left = level(level + 1, within, names);
        for (int i = 0; i < 2 && chance(25); i++) {
            Written right = level(level + 1, within, names);
            left = joined(level, chance(50), left, right);
        }
        return left;
    }

    private static Written joined(int level, boolean first, Written left, Written right) {
        Expr a = left.expr;
        Expr b = right.expr;
        switch (level) {
            case 0:
                return new Written(left.text + " or " + right.text, v -> a.of(v) != 0 | b.of(v) != 0 ? 1 : 0);
            case 1:
                return new Written(left.text + " and " + right.text, v -> a.of(v) != 0 & b.of(v) != 0 ? 1 : 0);
            case 3:
                return first
                    ? new Written(left.text + "+" + right.text, v -> a.of(v) + b.of(v))
                    : new Written(left.text + " -" + right.text, v -> a.of(v) - b.of(v));
            default:
                return first
                    ? new Written(left.text + "*" + right.text, v -> a.of(v) * b.of(v))
                    : new Written(left.text + "/ " + right.text, v -> b.of(v) == 0 ? 0 : a.of(v) / b.of(v));
        }
    }

    private Written negation(int within, String... names) {
        int nots = chance(15) ? 1 + random.nextInt(6) : 0;
        Written left = level(3, within, names);
        if (chance(20)) {
            Expr a = left.expr;
            Written right = level(3, within, names);
            Expr b = right.expr;
            left = chance(50)
                ? new Written(left.text + "<" + right.text, v -> a.of(v) < b.of(v) ? 1 : 0)
                : new Written(left.text + "=" + right.text, v -> a.of(v) == b.of(v) ? 1 : 0);
        }
        for (int i = 0; i < nots; i++) {
            Expr a = left.expr;
            left = new Written("not " + left.text, v -> a.of(v) == 0 ? 1 : 0);
        }
        return left;
    }

    private Written part(int within, String... names) {
        if (within < 5 && chance(20)) {
            Written inner = level(0, within + 1, names);
            return new Written("(" + inner.text + ")", inner.expr);
        }
        if (chance(50)) {
            int number = random.nextInt(chance(90) ? 12 : 10000);
            return new Written("" + number, v -> number);
        }
        String name = names[random.nextInt(names.length)];
        return new Written(name, v -> v.get(name));
    }

    // ---- what it comes to

    int far(int one, int other) {
        return Math.abs(one % w - other % w) + Math.abs(one / w - other / w);
    }

    int crowd(int cell) {
        return Collections.frequency(state.at, cell);
    }

    int need(int cell, int chair, int minutes, int extra) {
        int need = 1 + far(cell, chair) / 3 + glare[cell];
        if (needs != null) {
            Map<String, Integer> values = new TreeMap<>();
            values.put("depth", depth[cell]);
            values.put("glare", glare[cell]);
            values.put("far", far(cell, chair));
            values.put("crowd", crowd(cell) + extra);
            values.put("tired", minutes / tire);
            need = needs.expr.of(values);
        }
        return need < 1 ? 1 : need > 30 ? 30 : need;
    }

    int need(int cell) {
        return need(cell, state.chair, state.minutes, 0);
    }

    int weight(int swimmer) {
        int cell = state.at.get(swimmer);
        int weight = 10 - skills.get(swimmer);
        if (trouble != null) {
            Map<String, Integer> values = new TreeMap<>();
            values.put("skill", skills.get(swimmer));
            values.put("depth", depth[cell]);
            values.put("glare", glare[cell]);
            values.put("far", far(cell, state.chair));
            values.put("crowd", crowd(cell));
            weight = trouble.expr.of(values);
        }
        return weight < 0 ? 0 : weight > 99 ? 99 : weight;
    }

    /** The cell of each second, -1 being nowhere. */
    static int[] seconds(List<int[]> looks) {
        List<Integer> seconds = new ArrayList<>();
        for (int[] look : looks) {
            for (int i = 0; i < look[1]; i++) {
                seconds.add(look[0]);
            }
        }
        int[] row = new int[seconds.size()];
        for (int i = 0; i < row.length; i++) {
            row[i] = seconds.get(i);
        }
        return row;
    }

    int[] seconds() {
        return seconds(state.looks);
    }

    static int delay(int[] round, int cell, int need, int from) {
        int looked = 0;
        for (int t = from; round.length > 0 && t < from + 3 * round.length + 60; t++) {
            looked = round[t % round.length] == cell ? looked + 1 : 0;
            if (looked == need) {
                return t - from + 1;
            }
        }
        return NEVER;
    }

    static int worst(int[] round, int cell, int need) {
        int worst = round.length == 0 ? NEVER : 0;
        for (int second = 0; second < round.length; second++) {
            worst = Math.max(worst, delay(round, cell, need, second));
        }
        return worst;
    }

    int worstOfAll(int[] round, int chair, int minutes, int extra) {
        int worst = 0;
        for (int cell : new TreeSet<>(state.at)) {
            worst = Math.max(worst, worst(round, cell, need(cell, chair, minutes, extra)));
        }
        return worst;
    }

    int worstOfAll(List<int[]> looks) {
        return worstOfAll(seconds(looks), state.chair, state.minutes, 0);
    }

    int halves(int x) {
        List<int[]> left = new ArrayList<>();
        List<int[]> right = new ArrayList<>();
        for (int[] look : state.looks) {
            (look[0] % w < x ? left : right).add(look);
        }
        int worst = 0;
        for (int cell : new TreeSet<>(state.at)) {
            worst = Math.max(worst, worst(seconds(cell % w < x ? left : right), cell, need(cell)));
        }
        return worst;
    }

    int both() {
        int[] round = seconds();
        int n = round.length;
        int worst = 0;
        for (int cell : new TreeSet<>(state.at)) {
            worst = Math.max(worst, n == 0 ? NEVER : 0);
            for (int second = 0; second < n; second++) {
                int first = delay(round, cell, need(cell), second);
                int other = delay(round, cell, need(cell), (second - n / 2 + n) % n);
                worst = Math.max(worst, Math.min(first, other));
            }
        }
        return worst;
    }

    int away(int behind) {
        int best = -1;
        for (int away = 0; away <= 99; away++) {
            List<int[]> looks = new ArrayList<>(state.looks);
            looks.add(behind + 1, new int[] {-1, away});
            if (worstOfAll(looks) <= last) {
                best = away;
            }
        }
        return best;
    }

    int swap() {
        for (int minutes = 0; minutes <= 999; minutes++) {
            if (worstOfAll(seconds(), state.chair, minutes, 0) > last) {
                return minutes - 1;
            }
        }
        return 999;
    }

    int many() {
        for (int extra = 0; extra <= 40; extra++) {
            if (worstOfAll(seconds(), state.chair, state.minutes, extra) > last) {
                return extra - 1;
            }
        }
        return 40;
    }

    /** The worst, and behind it the row. */
    List<Integer> bestOrder() {
        List<List<Integer>> rows = new ArrayList<>();
        orders(new ArrayList<>(), rows);
        List<Integer> best = null;
        for (List<Integer> row : rows) {
            List<int[]> looks = new ArrayList<>();
            for (int look : row) {
                looks.add(state.looks.get(look));
            }
            best = better(best, worstOfAll(looks), row);
        }
        return best;
    }

    private void orders(List<Integer> row, List<List<Integer>> rows) {
        if (row.size() == state.looks.size()) {
            rows.add(new ArrayList<>(row));
            return;
        }
        for (int look = 0; look < state.looks.size(); look++) {
            if (!row.contains(look) && (row.isEmpty() ? look == 0 : true)) {
                row.add(look);
                orders(row, rows);
                row.remove(row.size() - 1);
            }
        }
    }

    List<Integer> bestLengths() {
        List<List<Integer>> rows = new ArrayList<>();
        allLengths(new ArrayList<>(), rows);
        List<Integer> best = null;
        for (List<Integer> row : rows) {
            List<int[]> looks = new ArrayList<>();
            for (int i = 0; i < row.size(); i++) {
                looks.add(new int[] {state.looks.get(i)[0], row.get(i)});
            }
            best = better(best, worstOfAll(looks), row);
        }
        return best;
    }

    private void allLengths(List<Integer> row, List<List<Integer>> rows) {
        if (row.size() == state.looks.size()) {
            rows.add(new ArrayList<>(row));
            return;
        }
        for (int seconds = 1; seconds <= 4; seconds++) {
            row.add(seconds);
            allLengths(row, rows);
            row.remove(row.size() - 1);
        }
    }

    private static List<Integer> better(List<Integer> best, int worst, List<Integer> row) {
        if (best != null && best.get(0) <= worst) {
            return best;
        }
        List<Integer> found = new ArrayList<>();
        found.add(worst);
        found.addAll(row);
        return found;
    }

    int wrong(int game, int what) {
        int wrong = 0;
        for (int[] one : cases) {
            Map<String, Integer> values = new TreeMap<>();
            values.put("legs", one[0]);
            values.put("mouth", one[1]);
            values.put("waves", one[2]);
            values.put("screams", one[3]);
            boolean fun = games.get(game).expr.of(values) != 0;
            boolean wasTrouble = one[4] == 1;
            if (what == 0 ? !wasTrouble && !fun : wasTrouble && fun) {
                wrong++;
            }
        }
        return wrong;
    }

    int[] missing() {
        int sets = 0;
        int fewest = -1;
        int all = -1;
        for (int set = 0; set < 1 << state.at.size(); set++) {
            boolean fits = true;
            for (int[] head : state.heads) {
                int there = 0;
                for (int i = 0; i < state.at.size(); i++) {
                    if (state.at.get(i) / w == head[0] && (set >> i & 1) == 0) {
                        there++;
                    }
                }
                fits &= there == head[1];
            }
            if (fits) {
                sets++;
                all = all == -1 && sets == 1 ? set : all & set;
                if (fewest == -1 || Integer.bitCount(set) < Integer.bitCount(fewest)) {
                    fewest = set;
                }
            }
        }
        return new int[] {sets, fewest, sets == 0 ? 0 : all};
    }

    int[] week(int seed, int n) {
        int[] week = new int[3];
        List<Integer> tickets = new ArrayList<>();
        for (int i = 0; i < state.at.size(); i++) {
            for (int k = 0; k < weight(i); k++) {
                tickets.add(i);
            }
        }
        int[] round = seconds();
        for (int i = 0; i < n && !tickets.isEmpty(); i++) {
            seed = seed * 1103515245 + 12345;
            int cell = state.at.get(tickets.get((seed >> 16 & 0x7fff) % tickets.size()));
            int delay = NEVER;
            if (round.length > 0) {
                seed = seed * 1103515245 + 12345;
                delay = delay(round, cell, need(cell), (seed >> 16 & 0x7fff) % round.length);
            }
            week[0] += Math.min(delay, last);
            week[1] += delay > last ? 1 : 0;
            week[2] = Math.max(week[2], Math.min(delay, last));
        }
        return week;
    }

    int unseen(int cell) {
        int unseen = 0;
        for (int second = 0; second < seconds().length; second++) {
            unseen += delay(seconds(), cell, need(cell), second) > last ? 1 : 0;
        }
        return unseen;
    }

    /** Upper and lower part. */
    int[] risk() {
        int upper = 0;
        int lower = 0;
        int n = seconds().length;
        for (int i = 0; i < state.at.size(); i++) {
            upper += weight(i) * (n == 0 ? 1 : unseen(state.at.get(i)));
            lower += weight(i) * (n == 0 ? 1 : n);
        }
        return lowest(upper, lower);
    }

    static int[] lowest(int upper, int lower) {
        if (lower == 0) {
            return new int[] {0, 1};
        }
        int divisor = lower;
        while (upper % divisor != 0 || lower % divisor != 0) {
            divisor--;
        }
        return new int[] {upper / divisor, lower / divisor};
    }

    // ---- acts

    void act() {
        state.acts.addLast(state.copy());
        if (state.acts.size() > 40) {
            state.acts.removeFirst();
        }
    }

    /** Acts don't touch dummies and heads, so these stay when one is undone. */
    boolean undo() {
        if (state.acts.isEmpty()) {
            return false;
        }
        // a copy, as an image may hold the same one
        State before = state.acts.removeLast().copy();
        before.acts = state.acts;
        before.dummies = state.dummies;
        before.heads = state.heads;
        state = before;
        return true;
    }
}
