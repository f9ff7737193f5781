import java.util.List;
import java.util.Random;
import java.util.TreeSet;

/** Random pools, acts and questions: the class answers as the slow model does. */
public final class OracleTest {
    private static final Checks CHECKS = new Checks("OracleTest");
    private static final int POOLS = 300;

    public static void main(String[] args) {
        for (int seed = 0; seed < POOLS; seed++) {
            Random random = new Random(seed);
            Model model = new Model(random);
            LaneEyes eyes = new LaneEyes();
            CHECKS.due("seed " + seed + " lanes of " + model.text, 0, Checks.tell(eyes, model.text.toString()));
            askAll(eyes, model, "seed " + seed);
            for (int round = 0; round < 3; round++) {
                act(eyes, model, random);
                askAll(eyes, model, "seed " + seed + " round " + round + " of " + model.text);
            }
        }
        CHECKS.end();
    }

    private static int orNone(int delay) {
        return delay == Model.NEVER ? -1 : delay;
    }

    private static void act(LaneEyes eyes, Model model, Random random) {
        int cells = model.w * model.h;
        for (int i = random.nextInt(random.nextInt(10) == 0 ? 60 : 8); i > 0; i--) {
            switch (random.nextInt(10)) {
                case 0: swim(eyes, model, random, cells); break;
                case 1:
                    int chair = random.nextInt(cells);
                    model.act();
                    CHECKS.due("chair", model.state.chair, eyes.chair(chair));
                    model.state.chair = chair;
                    break;
                case 2: lasts(eyes, model, random); break;
                case 3: change(eyes, model, random); break;
                case 4:
                    int minutes = random.nextInt(1000);
                    model.act();
                    CHECKS.due("minutes", model.state.minutes, eyes.minutes(minutes));
                    model.state.minutes = minutes;
                    break;
                case 5:
                    boolean undone = model.undo();
                    CHECKS.due("undo", undone ? model.state.acts.size() : -1, eyes.undo());
                    break;
                case 6: tellDummy(eyes, model, random); break;
                case 7: tellHeads(eyes, model, random); break;
                case 8:
                    eyes.image();
                    model.image = model.state.copy();
                    break;
                default:
                    CHECKS.due("restore", model.image != null, eyes.restore());
                    model.state = model.image == null ? model.state : model.image.copy();
                    break;
            }
        }
    }

    private static void swim(LaneEyes eyes, Model model, Random random, int cells) {
        if (!model.state.at.isEmpty()) {
            int swimmer = random.nextInt(model.state.at.size());
            int cell = random.nextInt(cells);
            model.act();
            CHECKS.due("swim", model.state.at.get(swimmer), eyes.swim(swimmer, cell));
            model.state.at.set(swimmer, cell);
        }
    }

    private static void lasts(LaneEyes eyes, Model model, Random random) {
        if (!model.state.looks.isEmpty()) {
            int look = random.nextInt(model.state.looks.size());
            int seconds = 1 + random.nextInt(9);
            model.act();
            CHECKS.due("lasts", model.state.looks.get(look)[1], eyes.lasts(look, seconds));
            model.state.looks.get(look)[1] = seconds;
        }
    }

    private static void change(LaneEyes eyes, Model model, Random random) {
        int one = random.nextInt(12);
        int other = random.nextInt(12);
        int looks = model.state.looks.size();
        boolean may = one < looks && other < looks && one != other;
        if (may) {
            model.act();
            int[] look = model.state.looks.get(one);
            model.state.looks.set(one, model.state.looks.get(other));
            model.state.looks.set(other, look);
        }
        CHECKS.due("change", may, eyes.change(one, other));
    }

    private static void tellDummy(LaneEyes eyes, Model model, Random random) {
        int delay = random.nextInt(random.nextInt(5) == 0 ? 1000 : 50);
        boolean may = model.state.dummies.size() < 12;
        if (may) {
            model.state.dummies.add(delay);
        }
        CHECKS.due("dummy", may ? model.state.dummies.size() : -1, eyes.dummy(delay));
    }

    private static void tellHeads(LaneEyes eyes, Model model, Random random) {
        int y = random.nextInt(model.h);
        int many = random.nextInt(random.nextInt(3) == 0 ? 13 : 3);
        boolean may = model.state.heads.size() < 8;
        if (may) {
            model.state.heads.add(new int[] {y, many});
        }
        CHECKS.due("heads", may ? model.state.heads.size() : -1, eyes.heads(y, many));
    }

    private static void askAll(LaneEyes eyes, Model model, String where) {
        askCounts(eyes, model, where);
        askCells(eyes, model, where);
        askBest(eyes, model, where);
        askTwo(eyes, model, where);
        askGames(eyes, model, where);
        askTold(eyes, model, where);
        askWeeks(eyes, model, where);
    }

    private static void askCounts(LaneEyes eyes, Model model, String where) {
        TreeSet<Integer> looked = new TreeSet<>();
        for (int[] look : model.state.looks) {
            looked.add(look[0]);
        }
        int[] want = {model.w, model.h, model.state.at.size(), model.state.looks.size(), model.state.chair, model.last,
            model.tire, model.state.minutes, model.games.size(), model.cases.size(), model.seconds().length,
            model.state.acts.size(), model.state.dummies.size(), model.state.heads.size()};
        for (int what = 0; what < want.length; what++) {
            CHECKS.due(where + " count " + what, want[what], eyes.count(what));
        }
        CHECKS.due(where + " count 18", looked.size(), eyes.count(18));
        for (int i = 0; i < model.state.looks.size(); i++) {
            CHECKS.due(where + " look cell", model.state.looks.get(i)[0], eyes.look(i, 0));
            CHECKS.due(where + " look seconds", model.state.looks.get(i)[1], eyes.look(i, 1));
        }
        for (int i = 0; i < model.state.at.size(); i++) {
            CHECKS.due(where + " swimmer cell", model.state.at.get(i), eyes.swimmer(i, 0));
            CHECKS.due(where + " skill", model.skills.get(i), eyes.swimmer(i, 1));
            CHECKS.due(where + " trouble", model.weight(i), eyes.swimmer(i, 2));
        }
    }

    private static void askCells(LaneEyes eyes, Model model, String where) {
        int[] round = model.seconds();
        long blind = 0;
        int worstCell = -1;
        int worst = model.worstOfAll(model.state.looks);
        for (int cell = 0; cell < model.w * model.h; cell++) {
            int who = 0;
            for (int i = 0; i < model.state.at.size(); i++) {
                who |= model.state.at.get(i) == cell ? 1 << i : 0;
            }
            int need = model.need(cell);
            int ofCell = Model.worst(round, cell, need);
            CHECKS.due(where + " depth", model.depth[cell], eyes.cell(cell, 0));
            CHECKS.due(where + " glare", model.glare[cell], eyes.cell(cell, 1));
            CHECKS.due(where + " far", model.far(cell, model.state.chair), eyes.cell(cell, 2));
            CHECKS.due(where + " who", who, eyes.cell(cell, 3));
            CHECKS.due(where + " need", need, eyes.cell(cell, 4));
            CHECKS.due(where + " worst of " + cell, orNone(ofCell), eyes.cell(cell, 5));
            CHECKS.due(where + " unseen of " + cell, model.unseen(cell), eyes.cell(cell, 6));
            for (int second = 0; second < round.length; second++) {
                CHECKS.due(where + " delay", orNone(Model.delay(round, cell, need, second)), eyes.delay(cell, second));
            }
            blind |= ofCell == Model.NEVER ? 1L << cell : 0;
            if (who != 0 && worstCell == -1 && ofCell == worst) {
                worstCell = cell;
            }
        }
        CHECKS.due(where + " blind", blind, eyes.blind());
        CHECKS.due(where + " worst", orNone(worst), eyes.worst(0));
        CHECKS.due(where + " worst cell", worstCell, eyes.worst(1));
    }

    private static void askBest(LaneEyes eyes, Model model, String where) {
        int looks = model.state.looks.size();
        askRow(where + " order", looks > 7 ? null : looks == 7 && !model.chance(5) ? List.of() : model.bestOrder(), eyes, true);
        askRow(where + " lengths", looks > 5 ? null : looks == 5 && !model.chance(20) ? List.of() : model.bestLengths(), eyes, false);
        int best = 0;
        for (int chair = 1; chair < model.w * model.h; chair++) {
            if (worstFrom(model, chair) < worstFrom(model, best)) {
                best = chair;
            }
        }
        CHECKS.due(where + " best chair", best, eyes.best(0));
        CHECKS.due(where + " worst by it", orNone(worstFrom(model, best)), eyes.best(1));
        for (int look = 0; look < looks; look++) {
            List<int[]> left = new java.util.ArrayList<>(model.state.looks);
            left.remove(look);
            CHECKS.due(where + " without " + look, orNone(model.worstOfAll(left)), eyes.without(look));
            if (model.chance(30)) {
                CHECKS.due(where + " away " + look, model.away(look), eyes.away(look));
            }
        }
        CHECKS.due(where + " swap", model.swap(), eyes.swap());
        CHECKS.due(where + " many", model.many(), eyes.many());
    }

    private static int worstFrom(Model model, int chair) {
        return model.worstOfAll(model.seconds(), chair, model.state.minutes, 0);
    }

    /** Null: spent; empty: too slow for the model this time. */
    private static void askRow(String where, List<Integer> want, LaneEyes eyes, boolean order) {
        int got = order ? eyes.order() : eyes.lengths();
        if (want == null) {
            CHECKS.due(where, -2, got);
            return;
        }
        if (!want.isEmpty()) {
            CHECKS.due(where, orNone(want.get(0)), got);
        }
        for (int i = 1; i < want.size(); i++) {
            CHECKS.due(where + " row " + (i - 1), want.get(i), eyes.row(i - 1));
        }
    }

    private static void askTwo(LaneEyes eyes, Model model, String where) {
        int best = -1;
        for (int x = 1; x < model.w; x++) {
            CHECKS.due(where + " halves " + x, orNone(model.halves(x)), eyes.halves(x));
            if (best == -1 || model.halves(x) < model.halves(best)) {
                best = x;
            }
        }
        CHECKS.due(where + " two 0", best, eyes.two(0));
        CHECKS.due(where + " two 1", best == -1 ? -1 : orNone(model.halves(best)), eyes.two(1));
        CHECKS.due(where + " two 2", orNone(model.both()), eyes.two(2));
    }

    private static void askGames(LaneEyes eyes, Model model, String where) {
        int best = -1;
        int least = 0;
        for (int game = 0; game < model.games.size(); game++) {
            CHECKS.due(where + " false", model.wrong(game, 0), eyes.game(game, 0));
            CHECKS.due(where + " missed", model.wrong(game, 1), eyes.game(game, 1));
            int costs = model.wrong(game, 0) + 3 * model.wrong(game, 1);
            if (best == -1 || costs < least) {
                best = game;
                least = costs;
            }
        }
        CHECKS.due(where + " fun", best, eyes.fun());
        int costs = 1 + model.random.nextInt(999);
        int left = 1 + model.random.nextInt(999);
        int tenths = 0;
        while (tenths * left < (10 - tenths) * costs) {
            tenths++;
        }
        CHECKS.due(where + " jump", tenths, eyes.jump(costs, left));
    }

    private static void askTold(LaneEyes eyes, Model model, String where) {
        int all = 0;
        int greatest = -1;
        int above = 0;
        for (int delay : model.state.dummies) {
            all += delay;
            greatest = Math.max(greatest, delay);
            above += delay > model.last ? 1 : 0;
        }
        int[] mean = Model.lowest(all, model.state.dummies.size());
        CHECKS.due(where + " mean", mean[0], eyes.dummies(0));
        CHECKS.due(where + " mean by", mean[1], eyes.dummies(1));
        CHECKS.due(where + " greatest", greatest, eyes.dummies(2));
        CHECKS.due(where + " above", above, eyes.dummies(3));
        int wanted = 1 + model.random.nextInt(30);
        int more = 0;
        while (all > wanted * (model.state.dummies.size() + more)) {
            more++;
        }
        CHECKS.due(where + " more", more, eyes.more(wanted));
        int[] missing = model.missing();
        for (int what = 0; what < 3; what++) {
            CHECKS.due(where + " missing " + what, missing[what], eyes.missing(what));
        }
    }

    private static void askWeeks(LaneEyes eyes, Model model, String where) {
        int seed = model.random.nextInt();
        int n = model.random.nextInt(101);
        int[] week = model.week(seed, n);
        for (int what = 0; what < 3; what++) {
            CHECKS.due(where + " week " + what, week[what], eyes.week(seed, n, what));
        }
        int[] risk = model.risk();
        CHECKS.due(where + " risk upper", risk[0], eyes.risk(0));
        CHECKS.due(where + " risk lower", risk[1], eyes.risk(1));
    }
}
