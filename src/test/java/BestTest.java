/** Promises 17 to 25: orders, lengths, chairs, looking away, swaps, crowds, and two who share it. */
public final class BestTest {
    private static final Checks CHECKS = new Checks("BestTest");

    public static void main(String[] args) {
        orders();
        lengths();
        spent();
        chairs();
        away();
        swaps();
        crowds();
        halves();
        both();
        CHECKS.end();
    }

    private static void orders() {
        // only 0 0 1 . . in the middle: two looks at cell 1 are best as far from each other as can be
        LaneEyes eyes = Checks.told("pool 3 1;needs 1;swimmer 1 0 0;look 0 0 2;look 1 0 1;look 1 0 1;look 2 0 2;");
        CHECKS.due("as it is", 5, eyes.worst(0));
        CHECKS.due("best order", 3, eyes.order());
        row(eyes, 0, 1, 3, 2);
        CHECKS.due("the looks stay", 1, eyes.look(2, 0));
        CHECKS.due("the worst stays", 5, eyes.worst(0));
        CHECKS.dueThrow("row(-1)", Checks.NO_SUCH, () -> eyes.row(-1));
        // two looks must come side by side to be long enough, round the end of the round too
        LaneEyes joined = Checks.told("pool 3 1;needs 2;swimmer 1 0 0;look 1 0 1;look 0 0 1;look 1 0 1;look 2 0 1;");
        CHECKS.due("as it is", -1, joined.worst(0));
        CHECKS.due("joined", 5, joined.order());
        row(joined, 0, 1, 3, 2);
        LaneEyes never = Checks.told("pool 2 1;swimmer 1 0 0;look 0 0 1;look 0 0 2;look 0 0 3;");
        CHECKS.due("never", -1, never.order());
        row(never, 0, 1, 2);
        LaneEyes none = Checks.told("swimmer 1 0 0;");
        CHECKS.due("no looks", -1, none.order());
        CHECKS.dueThrow("row(0)", Checks.NO_SUCH, () -> none.row(0));
        LaneEyes nobody = Checks.told("look 0 0 1;look 1 0 1;");
        CHECKS.dueThrow("none is kept", Checks.NO_SUCH, () -> nobody.row(0));
        CHECKS.due("nobody", 0, nobody.order());
        row(nobody, 0, 1);
        LaneEyes seven = Checks.told("pool 7 1;needs 1;swimmer 6 0 0;look 6 0 1;look 1 0 2;look 2 0 3;look 3 0 4;"
            + "look 4 0 5;look 5 0 6;look 6 0 1;");
        CHECKS.due("seven looks", 11, seven.order());
        row(seven, 0, 1, 2, 4, 6, 3, 5);
    }

    private static void lengths() {
        LaneEyes eyes = Checks.told("pool 2 1;needs 3;swimmer 0 0 0;swimmer 1 0 0;look 0 0 9;look 1 0 9;");
        CHECKS.due("best lengths", 8, eyes.lengths());
        row(eyes, 3, 3);
        CHECKS.due("the looks stay", 9, eyes.look(0, 1));
        LaneEyes never = Checks.told("pool 2 1;needs 5;swimmer 0 0 0;look 0 0 9;look 1 0 9;");
        CHECKS.due("never", -1, never.lengths());
        row(never, 1, 1);
        LaneEyes alone = Checks.told("pool 2 1;needs 5;swimmer 0 0 0;look 0 0 9;");
        CHECKS.due("one alone", 5, alone.lengths());
        row(alone, 1);
        alone.order();
        row(alone, 0);
        LaneEyes four = Checks.told("pool 2 1;needs 4;swimmer 0 0 0;look 0 0 9;look 1 0 1;");
        CHECKS.due("four", 8, four.lengths());
        row(four, 4, 1);
        LaneEyes none = Checks.told("swimmer 1 0 0;");
        CHECKS.due("no looks", -1, none.lengths());
        CHECKS.dueThrow("row(0)", Checks.NO_SUCH, () -> none.row(0));
    }

    private static void spent() {
        LaneEyes six = Checks.told("look 0 0 1;look 1 0 2;look 2 0 3;look 3 0 4;look 4 0 5;look 5 0 6;");
        CHECKS.due("lengths of six", -2, six.lengths());
        CHECKS.dueThrow("nothing is kept", Checks.NO_SUCH, () -> six.row(0));
        CHECKS.due("order of six", 0, six.order());
        CHECKS.due("lengths of six", -2, six.lengths());
        row(six, 0, 1, 2, 3, 4, 5);
        LaneEyes eight = Checks.told("look 0 0 1;".repeat(8));
        CHECKS.due("order of eight", -2, eight.order());
        CHECKS.dueThrow("nothing is kept", Checks.NO_SUCH, () -> eight.row(0));
        CHECKS.due("order of seven", 0, Checks.told("look 0 0 1;".repeat(7)).order());
        CHECKS.due("lengths of five", 0, Checks.told("look 0 0 1;".repeat(5)).lengths());
    }

    private static void row(LaneEyes eyes, int... want) {
        for (int i = 0; i < want.length; i++) {
            CHECKS.due("row(" + i + ")", want[i], eyes.row(i));
        }
        CHECKS.dueThrow("row behind its end", Checks.NO_SUCH, () -> eyes.row(want.length));
    }

    private static void chairs() {
        LaneEyes eyes = Checks.told("pool 5 1;needs far+1;swimmer 1 0 0;swimmer 3 0 0;look 1 0 9;look 3 0 9;");
        CHECKS.due("worst from 0", 9 + 2 * 4 - 1, eyes.worst(0));
        CHECKS.due("best chair", 2, eyes.best(0));
        CHECKS.due("its worst", 9 + 2 * 2 - 1, eyes.best(1));
        CHECKS.due("the chair stays", 0, eyes.count(4));
        LaneEyes never = Checks.told("swimmer 0 0 0;chair 3 3;");
        CHECKS.due("never", 0, never.best(0));
        CHECKS.due("never", -1, never.best(1));
        CHECKS.dueThrow("what 2", Checks.NO_SUCH, () -> never.best(2));
        CHECKS.dueThrow("what -1", Checks.NO_SUCH, () -> never.best(-1));
    }

    private static void away() {
        LaneEyes eyes = Checks.told("pool 2 1;needs 2;last 20;swimmer 0 0 0;look 0 0 2;look 1 0 3;");
        // the gap of cell 0 is 3 and what he looks away; the worst is that and 3
        CHECKS.due("away(0)", 14, eyes.away(0));
        CHECKS.due("away(1)", 14, eyes.away(1));
        CHECKS.dueThrow("away(2)", Checks.NO_SUCH, () -> eyes.away(2));
        CHECKS.dueThrow("away(-1)", Checks.NO_SUCH, () -> eyes.away(-1));
        LaneEyes alone = Checks.told("pool 1 1;needs 1;last 60;swimmer 0 0 0;look 0 0 1;");
        CHECKS.due("trouble may begin while he looks away", 59, alone.away(0));
        LaneEyes long99 = Checks.told("pool 1 1;needs 1;last 300;swimmer 0 0 0;look 0 0 1;");
        CHECKS.due("no more than 99", 99, long99.away(0));
        LaneEyes none = Checks.told("pool 2 1;needs 2;last 5;swimmer 0 0 0;look 0 0 2;look 1 0 3;");
        CHECKS.due("none", -1, none.away(0));
        LaneEyes exact = Checks.told("pool 2 1;needs 2;last 6;swimmer 0 0 0;look 0 0 2;look 1 0 3;");
        CHECKS.due("nothing but 0", 0, exact.away(0));
        LaneEyes parted = Checks.told("pool 2 1;needs 2;last 60;swimmer 0 0 0;look 0 0 1;look 0 0 1;look 1 0 3;");
        CHECKS.due("it would part two looks", 0, parted.away(0));
        CHECKS.due("it parts none", 54, parted.away(1));
        LaneEyes nobody = Checks.told("look 0 0 1;");
        CHECKS.due("nobody in", 99, nobody.away(0));
    }

    private static void swaps() {
        LaneEyes eyes = Checks.told("pool 2 1;tire 10;needs tired+1;last 9;swimmer 0 0 0;look 0 0 5;look 1 0 3;");
        // worst is 3 and 2 by need less 1: need 3 is 8, need 4 is 10
        CHECKS.due("swap", 29, eyes.swap());
        eyes.minutes(500);
        CHECKS.due("from 0 on, whatever minutes are", 29, eyes.swap());
        CHECKS.due("minutes stay", 500, eyes.count(7));
        LaneEyes back = Checks.told("pool 2 1;tire 1;needs 1+3*(tired=7);last 9;swimmer 0 0 0;look 0 0 5;look 1 0 3;");
        CHECKS.due("up to the first that is too much", 6, back.swap());
        LaneEyes none = Checks.told("pool 2 1;tire 1;needs 5-tired;last 9;swimmer 0 0 0;look 0 0 5;look 1 0 3;");
        CHECKS.due("none", -1, none.swap());
        LaneEyes all = Checks.told("pool 2 1;tire 99;needs 1+tired/10;last 5;swimmer 0 0 0;look 0 0 5;look 1 0 3;");
        CHECKS.due("tired 10 at 990", 989, all.swap());
        LaneEyes rest = Checks.told("pool 2 1;needs 3;last 9;swimmer 0 0 0;look 0 0 5;look 1 0 3;");
        CHECKS.due("never tired", 999, rest.swap());
        LaneEyes soon = Checks.told("pool 2 1;tire 1;needs 1+5*tired;last 9;swimmer 0 0 0;look 0 0 5;look 1 0 3;");
        CHECKS.due("tired at once", 0, soon.swap());
        LaneEyes bad = Checks.told("pool 2 1;needs 6;last 9;swimmer 0 0 0;look 0 0 5;look 1 0 3;");
        CHECKS.due("never good", -1, bad.swap());
    }

    private static void crowds() {
        LaneEyes eyes = Checks.told("pool 2 1;needs crowd;last 9;swimmer 0 0 0;swimmer 0 0 0;look 0 0 5;look 1 0 3;");
        CHECKS.due("need 3 is 8, need 4 is 10", 1, eyes.many());
        LaneEyes back = Checks.told("pool 2 1;needs 1+5*(crowd=4);last 9;swimmer 0 0 0;look 0 0 5;look 1 0 3;");
        CHECKS.due("any fewer too", 2, back.many());
        LaneEyes forty = Checks.told("pool 2 1;needs 1+5*(40<crowd);last 9;swimmer 0 0 0;look 0 0 5;look 1 0 3;");
        CHECKS.due("forty more are too many", 39, forty.many());
        LaneEyes all = Checks.told("pool 2 1;needs 1+5*(41<crowd);last 9;swimmer 0 0 0;look 0 0 5;look 1 0 3;");
        CHECKS.due("forty more", 40, all.many());
        LaneEyes none = Checks.told("pool 2 1;needs 6-crowd;last 9;swimmer 1 0 0;look 0 0 5;look 1 0 3;");
        CHECKS.due("none", -1, none.many());
        LaneEyes empty = Checks.told("pool 2 1;needs 1+9*(0<crowd-1);last 9;swimmer 0 0 0;look 0 0 5;look 1 0 3;");
        CHECKS.due("nobody more", 0, empty.many());
    }

    private static void halves() {
        LaneEyes eyes = Checks.told("pool 4 1;needs 1;swimmer 0 0 0;swimmer 1 0 0;swimmer 3 0 0;"
            + "look 0 0 2;look 3 0 3;look 1 0 4;look 0 0 1;");
        CHECKS.due("x 1", Math.max(1, 5), eyes.halves(1));
        CHECKS.due("x 2", 5, eyes.halves(2));
        CHECKS.due("x 3", 5, eyes.halves(3));
        CHECKS.dueThrow("x 0", Checks.ILLEGAL, () -> eyes.halves(0));
        CHECKS.dueThrow("x 4", Checks.ILLEGAL, () -> eyes.halves(4));
        CHECKS.due("best x", 1, eyes.two(0));
        CHECKS.due("its worst", 5, eyes.two(1));
        LaneEyes later = Checks.told("pool 4 1;needs 1;swimmer 0 0 0;swimmer 1 0 0;swimmer 3 0 0;"
            + "look 0 0 1;look 1 0 1;look 3 0 9;");
        CHECKS.due("x 1", 10, later.halves(1));
        CHECKS.due("x 2", 2, later.halves(2));
        CHECKS.due("best x", 2, later.two(0));
        CHECKS.due("its worst", 2, later.two(1));
        LaneEyes never = Checks.told("pool 3 1;needs 1;swimmer 0 0 0;look 1 0 1;");
        CHECKS.due("never", -1, never.halves(1));
        CHECKS.due("never, least x", 1, never.two(0));
        CHECKS.due("never", -1, never.two(1));
        LaneEyes joined = Checks.told("pool 2 1;needs 3;swimmer 0 0 0;look 0 0 1;look 1 0 1;look 0 0 1;look 1 0 1;");
        CHECKS.due("looks become one", 3, joined.halves(1));
        LaneEyes narrow = Checks.told("pool 1 2;needs 1;swimmer 0 0 0;look 0 0 1;");
        CHECKS.due("W is 1", -1, narrow.two(0));
        CHECKS.due("W is 1", -1, narrow.two(1));
        CHECKS.due("W is 1, both", 1, narrow.two(2));
        CHECKS.dueThrow("W is 1, x 1", Checks.ILLEGAL, () -> narrow.halves(1));
        CHECKS.dueThrow("W is 1, x 0", Checks.ILLEGAL, () -> narrow.halves(0));
        CHECKS.dueThrow("what 3", Checks.NO_SUCH, () -> narrow.two(3));
        CHECKS.dueThrow("what -1", Checks.NO_SUCH, () -> narrow.two(-1));
    }

    private static void both() {
        LaneEyes eyes = Checks.told("pool 2 1;needs 2;swimmer 0 0 0;look 0 0 2;look 1 0 5;");
        // delays of cell 0: 2 8 7 6 5 4 3; the second does the same 3 seconds later
        CHECKS.due("both", 5, eyes.two(2));
        LaneEyes never = Checks.told("pool 2 1;needs 3;swimmer 0 0 0;look 0 0 2;look 1 0 5;");
        CHECKS.due("never", -1, never.two(2));
        CHECKS.due("no looks", -1, Checks.told("swimmer 0 0 0;").two(2));
        CHECKS.due("nobody", 0, Checks.told("look 0 0 1;").two(2));
    }
}
