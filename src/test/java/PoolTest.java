/** Promises 5 to 10: what there is, what rules give, delays and the worst. */
public final class PoolTest {
    private static final Checks CHECKS = new Checks("PoolTest");

    public static void main(String[] args) {
        counts();
        cells();
        looksAndSwimmers();
        rules();
        delays();
        loneLook();
        worst();
        CHECKS.end();
    }

    private static void counts() {
        LaneEyes eyes = Checks.told("pool 4 3;look 0 0 2;look 1 0 3;look 0 0 4;swimmer 3 2 1;chair 3 1;");
        CHECKS.due("seconds", 9, eyes.count(10));
        CHECKS.due("cells looked at", 2, eyes.count(18));
        CHECKS.due("chair", 7, eyes.count(4));
        CHECKS.dueThrow("count(19)", Checks.NO_SUCH, () -> eyes.count(19));
        CHECKS.dueThrow("count(-1)", Checks.NO_SUCH, () -> eyes.count(-1));
        eyes.feed(0, 0, 0, 0, 0);
        CHECKS.due("bytes", 20, eyes.count(14));
        eyes.minutes(33);
        CHECKS.due("minutes", 33, eyes.count(7));
    }

    private static void cells() {
        LaneEyes eyes = Checks.told("pool 3 2;deep 2 1 8;glare 2 1 5;chair 1 0;swimmer 2 1 0;swimmer 0 0 0;swimmer 2 1 0;");
        CHECKS.due("depth", 8, eyes.cell(5, 0));
        CHECKS.due("glare", 5, eyes.cell(5, 1));
        CHECKS.due("far", 2, eyes.cell(5, 2));
        CHECKS.due("far 3", 2, eyes.cell(3, 2));
        CHECKS.due("far of the chair", 0, eyes.cell(1, 2));
        CHECKS.due("who", 5, eyes.cell(5, 3));
        CHECKS.due("nobody", 0, eyes.cell(1, 3));
        CHECKS.due("need", 6, eyes.cell(5, 4));
        CHECKS.dueThrow("cell 6", Checks.NO_SUCH, () -> eyes.cell(6, 0));
        CHECKS.dueThrow("cell -1", Checks.NO_SUCH, () -> eyes.cell(-1, 0));
        CHECKS.dueThrow("what 7", Checks.NO_SUCH, () -> eyes.cell(0, 7));
        CHECKS.dueThrow("what -1", Checks.NO_SUCH, () -> eyes.cell(0, -1));
        LaneEyes wide = new LaneEyes();
        CHECKS.due("need at 2", 1, wide.cell(2, 4));
        CHECKS.due("need at 3", 2, wide.cell(3, 4));
        CHECKS.dueThrow("cell 40", Checks.NO_SUCH, () -> wide.cell(40, 0));
    }

    private static void looksAndSwimmers() {
        LaneEyes eyes = Checks.told("pool 3 2;look 2 1 4;look 0 1 9;swimmer 1 1 6;swimmer 2 0 0;");
        CHECKS.due("look cell", 5, eyes.look(0, 0));
        CHECKS.due("look seconds", 4, eyes.look(0, 1));
        CHECKS.due("look 1 cell", 3, eyes.look(1, 0));
        CHECKS.dueThrow("look 2", Checks.NO_SUCH, () -> eyes.look(2, 0));
        CHECKS.dueThrow("look -1", Checks.NO_SUCH, () -> eyes.look(-1, 0));
        CHECKS.dueThrow("look what", Checks.NO_SUCH, () -> eyes.look(0, 2));
        CHECKS.dueThrow("look what -1", Checks.NO_SUCH, () -> eyes.look(0, -1));
        CHECKS.due("swimmer cell", 4, eyes.swimmer(0, 0));
        CHECKS.due("swimmer skill", 6, eyes.swimmer(0, 1));
        CHECKS.due("trouble without a rule", 4, eyes.swimmer(0, 2));
        CHECKS.due("trouble of skill 0", 10, eyes.swimmer(1, 2));
        CHECKS.dueThrow("swimmer 2", Checks.NO_SUCH, () -> eyes.swimmer(2, 0));
        CHECKS.dueThrow("swimmer -1", Checks.NO_SUCH, () -> eyes.swimmer(-1, 0));
        CHECKS.dueThrow("swimmer what", Checks.NO_SUCH, () -> eyes.swimmer(0, 3));
        CHECKS.dueThrow("swimmer what -1", Checks.NO_SUCH, () -> eyes.swimmer(0, -1));
    }

    private static void rules() {
        need("1+2*3", 7);
        need("(1+2)*3", 9);
        need("20-5-4", 11);
        need("20/3/2", 3);
        need("7*(3-5)/3+10", 6);
        need("5/0+4", 4);
        need("0-5", 1);
        need("31", 30);
        need("0", 1);
        need("(1<2)*5+2", 7);
        need("(2<1)*5+2", 2);
        need("(2=2)*5+2", 7);
        need("(2<2)*5+2", 2);
        need("(not 0)*5+2", 7);
        need("(not 7)*5+2", 2);
        need("(not not 7)*5+2", 7);
        need("(not 1<0)*5+2", 7);
        need("(3 and 4)*5+2", 7);
        need("(3 and 0)*5+2", 2);
        need("(0 or 4)*5+2", 7);
        need("(0 or 0)*5+2", 2);
        need("(1 or 0 and 0)*5+2", 7);
        need("(0 and 0 or 1)*5+2", 7);
        need("(not 1 or 1)*5+2", 7);
        need("(not 1 and 0)*5+2", 2);
        need("(1+1<3)*5+2", 7);
        need("(9999*9999*9999<0)*5+2", 7);
        need("(9999*9999*9999*9999<0)*5+2", (long) (9999 * 9999 * 9999 * 9999) < 0 ? 7 : 2);
        need("depth", 8);
        need("glare", 5);
        need("far", 3);
        need("crowd", 2);
        need("tired+4", 4);
        need("depth*2-glare", 11);
        trouble("skill", 6);
        trouble("depth", 8);
        trouble("glare", 5);
        trouble("far", 3);
        trouble("crowd", 2);
        trouble("0-1", 0);
        trouble("99", 99);
        trouble("100", 99);
        LaneEyes eyes = Checks.told("tire 7;needs tired+1;");
        CHECKS.due("minutes", 0, eyes.minutes(6));
        CHECKS.due("not tired", 1, eyes.cell(0, 4));
        eyes.minutes(7);
        CHECKS.due("tired", 2, eyes.cell(0, 4));
        eyes.minutes(999);
        CHECKS.due("kept to 30", 30, eyes.cell(0, 4));
    }

    private static LaneEyes ruled(String rule) {
        return Checks.told("pool 4 3;deep 2 1 8;glare 2 1 5;swimmer 2 1 6;swimmer 2 1 6;" + rule + ";");
    }

    private static void need(String expr, long want) {
        CHECKS.due("needs " + expr, want, ruled("needs " + expr).cell(6, 4));
    }

    private static void trouble(String expr, long want) {
        CHECKS.due("trouble " + expr, want, ruled("trouble " + expr).swimmer(0, 2));
    }

    private static void delays() {
        // seconds: cells 0 0 0 1 2 0, and on to 0 0 0 again: four of cell 0 are one behind the other
        LaneEyes eyes = Checks.told("pool 3 1;look 0 0 3;look 1 0 1;look 2 0 1;look 0 0 1;last 5;needs 4-3*(0<far);");
        int[] zero = {9, 8, 7, 6, 5, 4};
        int[] one = {4, 3, 2, 1, 6, 5};
        for (int second = 0; second < 6; second++) {
            CHECKS.due("delay(0, " + second + ")", zero[second], eyes.delay(0, second));
            CHECKS.due("delay(1, " + second + ")", one[second], eyes.delay(1, second));
        }
        CHECKS.due("worst of 0", 9, eyes.cell(0, 5));
        CHECKS.due("worst of 1", 6, eyes.cell(1, 5));
        CHECKS.due("unseen of 0", 4, eyes.cell(0, 6));
        CHECKS.due("unseen of 1", 1, eyes.cell(1, 6));
        CHECKS.dueThrow("second 6", Checks.NO_SUCH, () -> eyes.delay(0, 6));
        CHECKS.dueThrow("second -1", Checks.NO_SUCH, () -> eyes.delay(0, -1));
        CHECKS.dueThrow("cell 3", Checks.NO_SUCH, () -> eyes.delay(3, 0));
        CHECKS.dueThrow("cell -1", Checks.NO_SUCH, () -> eyes.delay(-1, 0));
        LaneEyes never = Checks.told("pool 3 1;look 0 0 3;look 1 0 1;needs 4;");
        CHECKS.due("never", -1, never.delay(0, 0));
        CHECKS.due("never at all", -1, never.cell(0, 5));
        CHECKS.due("unseen", 4, never.cell(0, 6));
        LaneEyes none = Checks.told("pool 3 1;");
        CHECKS.dueThrow("no looks", Checks.NO_SUCH, () -> none.delay(0, 0));
        CHECKS.due("no looks, worst", -1, none.cell(0, 5));
        CHECKS.due("no looks, unseen", 0, none.cell(0, 6));
    }

    private static void loneLook() {
        LaneEyes eyes = Checks.told("pool 2 1;look 0 0 1;needs 30;last 29;");
        CHECKS.due("one look without end", 30, eyes.delay(0, 0));
        CHECKS.due("its worst", 30, eyes.cell(0, 5));
        CHECKS.due("its unseen", 1, eyes.cell(0, 6));
        CHECKS.due("the other cell", -1, eyes.delay(1, 0));
        LaneEyes two = Checks.told("pool 2 1;look 1 0 2;look 1 0 1;needs 7;last 7;");
        for (int second = 0; second < 3; second++) {
            CHECKS.due("two looks are one", 7, two.delay(1, second));
        }
        CHECKS.due("nothing unseen", 0, two.cell(1, 6));
    }

    private static void worst() {
        LaneEyes eyes = Checks.told("pool 4 1;look 0 0 2;look 1 0 2;look 2 0 2;needs 1;swimmer 2 0 0;swimmer 1 0 0;");
        CHECKS.due("worst", 5, eyes.worst(0));
        CHECKS.due("the least cell", 1, eyes.worst(1));
        eyes.swim(0, 3);
        CHECKS.due("never", -1, eyes.worst(0));
        CHECKS.due("its cell", 3, eyes.worst(1));
        CHECKS.dueThrow("what 2", Checks.NO_SUCH, () -> eyes.worst(2));
        CHECKS.dueThrow("what -1", Checks.NO_SUCH, () -> eyes.worst(-1));
        LaneEyes nobody = Checks.told("look 0 0 1;");
        CHECKS.due("nobody in", 0, nobody.worst(0));
        CHECKS.due("no cell", -1, nobody.worst(1));
        LaneEyes noLooks = Checks.told("swimmer 1 1 1;");
        CHECKS.due("no looks", -1, noLooks.worst(0));
        CHECKS.due("its cell", 9, noLooks.worst(1));
    }
}
