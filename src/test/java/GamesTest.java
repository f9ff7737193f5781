/** Promises 26 to 34: games, when to jump in, dummies, heads and who is missing. */
public final class GamesTest {
    private static final Checks CHECKS = new Checks("GamesTest");

    public static void main(String[] args) {
        games();
        jumps();
        dummies();
        more();
        heads();
        missing();
        CHECKS.end();
    }

    private static void games() {
        LaneEyes eyes = Checks.told("case 1 2 3 4 fun;case 5 6 7 8 trouble;case 9 0 0 0 fun;case 0 0 0 1 trouble;"
            + "game 0;game 1;game legs=1;game (0-1)*(legs+mouth+waves+screams<11);");
        int[] wrong = {2, 0, 1, 0};
        int[] missed = {0, 2, 0, 1};
        for (int game = 0; game < 4; game++) {
            CHECKS.due("false of " + game, wrong[game], eyes.game(game, 0));
            CHECKS.due("missed of " + game, missed[game], eyes.game(game, 1));
        }
        CHECKS.due("best", 2, eyes.fun());
        CHECKS.dueThrow("game 4", Checks.NO_SUCH, () -> eyes.game(4, 0));
        CHECKS.dueThrow("game -1", Checks.NO_SUCH, () -> eyes.game(-1, 0));
        CHECKS.dueThrow("what 2", Checks.NO_SUCH, () -> eyes.game(0, 2));
        CHECKS.dueThrow("what -1", Checks.NO_SUCH, () -> eyes.game(0, -1));
        LaneEyes seen = Checks.told("case 1 2 3 4 fun;game legs=1 and mouth=2 and waves=3 and screams=4;");
        CHECKS.due("each value", 0, seen.game(0, 0));
        LaneEyes like = Checks.told("case 1 1 1 1 trouble;case 2 2 2 2 fun;case 3 3 3 3 fun;case 4 4 4 4 fun;game 1;game 0;");
        CHECKS.due("one missed is as much as three false", 0, like.fun());
        CHECKS.due("the first of like ones", 0, Checks.told("game 0;game 1;").fun());
        LaneEyes fewer = Checks.told("case 1 1 1 1 trouble;case 2 2 2 2 fun;case 3 3 3 3 fun;game 1;game 0;");
        CHECKS.due("two false are less", 1, fewer.fun());
        CHECKS.due("none", -1, Checks.told("case 1 1 1 1 trouble;").fun());
    }

    private static void jumps() {
        LaneEyes eyes = new LaneEyes();
        CHECKS.due("as much is enough", 5, eyes.jump(7, 7));
        CHECKS.due("one more", 6, eyes.jump(8, 7));
        CHECKS.due("least", 1, eyes.jump(1, 9));
        CHECKS.due("never 0", 1, eyes.jump(1, 999));
        CHECKS.due("two", 2, eyes.jump(1, 8));
        CHECKS.due("nine", 9, eyes.jump(9, 1));
        CHECKS.due("ten", 10, eyes.jump(10, 1));
        CHECKS.dueThrow("costs 0", Checks.ILLEGAL, () -> eyes.jump(0, 1));
        CHECKS.dueThrow("costs 1000", Checks.ILLEGAL, () -> eyes.jump(1000, 1));
        CHECKS.dueThrow("left 0", Checks.ILLEGAL, () -> eyes.jump(1, 0));
        CHECKS.dueThrow("left 1000", Checks.ILLEGAL, () -> eyes.jump(1, 1000));
    }

    private static void dummies() {
        LaneEyes eyes = Checks.told("last 10;");
        CHECKS.due("none above", 0, eyes.dummies(3));
        CHECKS.due("first", 1, eyes.dummy(0));
        CHECKS.due("0 by 1", 0, eyes.dummies(0));
        CHECKS.due("0 by 1", 1, eyes.dummies(1));
        CHECKS.due("greatest 0", 0, eyes.dummies(2));
        CHECKS.due("second", 2, eyes.dummy(999));
        CHECKS.due("third", 3, eyes.dummy(10));
        CHECKS.due("fourth", 4, eyes.dummy(11));
        CHECKS.due("upper", 255, eyes.dummies(0));
        CHECKS.due("lower", 1, eyes.dummies(1));
        CHECKS.due("greatest", 999, eyes.dummies(2));
        CHECKS.due("above last", 2, eyes.dummies(3));
        CHECKS.due("not -1", -1, eyes.dummy(-1));
        CHECKS.due("not 1000", -1, eyes.dummy(1000));
        for (int i = 5; i <= 12; i++) {
            CHECKS.due("dummy " + i, i, eyes.dummy(1));
        }
        CHECKS.due("not 13", -1, eyes.dummy(1));
        CHECKS.due("refused", 3, eyes.count(17));
        CHECKS.due("upper", 257, eyes.dummies(0));
        CHECKS.due("lower", 3, eyes.dummies(1));
        CHECKS.dueThrow("what 4", Checks.NO_SUCH, () -> eyes.dummies(4));
        CHECKS.dueThrow("what -1", Checks.NO_SUCH, () -> eyes.dummies(-1));
        CHECKS.due("acts refused", 0, eyes.count(16));
        eyes.forget();
        CHECKS.due("forgotten", 0, eyes.count(12));
        CHECKS.due("greatest", -1, eyes.dummies(2));
        CHECKS.due("refused stays", 3, eyes.count(17));
        CHECKS.due("anew", 1, eyes.dummy(5));
        CHECKS.due("upper", 5, eyes.dummies(0));
    }

    private static void more() {
        LaneEyes eyes = new LaneEyes();
        CHECKS.due("none", 0, eyes.more(1));
        eyes.dummy(10);
        eyes.dummy(11);
        CHECKS.due("mean 11", 0, eyes.more(11));
        CHECKS.due("mean 10", 1, eyes.more(10));
        CHECKS.due("mean 7", 1, eyes.more(7));
        CHECKS.due("mean 6", 2, eyes.more(6));
        CHECKS.due("mean 1", 19, eyes.more(1));
        CHECKS.due("mean 999", 0, eyes.more(999));
        CHECKS.dueThrow("mean 0", Checks.ILLEGAL, () -> eyes.more(0));
        CHECKS.dueThrow("mean 1000", Checks.ILLEGAL, () -> eyes.more(1000));
    }

    private static void heads() {
        LaneEyes eyes = Checks.told("pool 2 3;");
        CHECKS.due("heads", 1, eyes.heads(0, 0));
        CHECKS.due("heads", 2, eyes.heads(2, 12));
        CHECKS.due("no such row", -1, eyes.heads(3, 0));
        CHECKS.due("no such row", -1, eyes.heads(-1, 0));
        CHECKS.due("not -1", -1, eyes.heads(0, -1));
        CHECKS.due("not 13", -1, eyes.heads(0, 13));
        CHECKS.due("refused", 4, eyes.count(17));
        for (int i = 3; i <= 8; i++) {
            CHECKS.due("heads " + i, i, eyes.heads(1, 1));
        }
        CHECKS.due("not nine", -1, eyes.heads(1, 1));
        CHECKS.due("refused", 5, eyes.count(17));
        CHECKS.due("told", 8, eyes.count(13));
        eyes.forget();
        CHECKS.due("forgotten", 0, eyes.count(13));
    }

    private static void missing() {
        LaneEyes eyes = Checks.told("pool 2 2;swimmer 0 0 0;swimmer 0 1 0;swimmer 1 1 0;swimmer 1 0 0;swimmer 0 1 0;");
        missing(eyes, 32, 0, 0);
        eyes.heads(1, 1);
        missing(eyes, 3 * 4, 2 + 4, 0);
        eyes.heads(0, 0);
        missing(eyes, 3, 1 + 2 + 4 + 8, 1 + 8);
        eyes.heads(1, 1);
        missing(eyes, 3, 15, 9);
        eyes.swim(4, 0);
        missing(eyes, 2, 1 + 2 + 8 + 16, 25);
        eyes.undo();
        eyes.heads(1, 2);
        missing(eyes, 0, -1, 0);
        eyes.forget();
        eyes.heads(0, 3);
        missing(eyes, 0, -1, 0);
        eyes.forget();
        eyes.heads(0, 2);
        eyes.heads(1, 3);
        missing(eyes, 1, 0, 0);
        eyes.forget();
        eyes.heads(0, 0);
        eyes.heads(1, 0);
        missing(eyes, 1, 31, 31);
        CHECKS.dueThrow("what 3", Checks.NO_SUCH, () -> eyes.missing(3));
        CHECKS.dueThrow("what -1", Checks.NO_SUCH, () -> eyes.missing(-1));
    }

    private static void missing(LaneEyes eyes, int sets, int fewest, int inAll) {
        CHECKS.due("sets", sets, eyes.missing(0));
        CHECKS.due("fewest", fewest, eyes.missing(1));
        CHECKS.due("in all", inAll, eyes.missing(2));
    }
}
