/** Promises 35 to 38: weeks by a seed, blind cells, looks left out, and risks. */
public final class WeekTest {
    private static final Checks CHECKS = new Checks("WeekTest");

    public static void main(String[] args) {
        weeks();
        blind();
        without();
        risks();
        CHECKS.end();
    }

    private static void weeks() {
        // seed 1: 1103527590, of which bits 16 to 30 are 16838; then 2524885223: 5758; 662824084: 10113
        LaneEyes one = Checks.told("pool 2 1;needs 1;last 4;swimmer 0 0 9;swimmer 1 0 7;look 0 0 1;look 1 0 1;look 0 0 3;");
        // weights 1 and 3: 16838 mod 4 is 2: swimmer 1; 5758 mod 5 is 3: seconds 3, 4, 0, 1
        CHECKS.due("one trouble", 4, one.week(1, 1, 0));
        CHECKS.due("in time", 0, one.week(1, 1, 1));
        CHECKS.due("greatest", 4, one.week(1, 1, 2));
        LaneEyes late = Checks.told("pool 2 1;needs 1;last 3;swimmer 0 0 9;swimmer 1 0 7;look 0 0 1;look 1 0 1;look 0 0 3;");
        CHECKS.due("kept to last", 3, late.week(1, 1, 0));
        CHECKS.due("late", 1, late.week(1, 1, 1));
        CHECKS.due("greatest", 3, late.week(1, 1, 2));
        CHECKS.due("no trouble", 0, late.week(1, 0, 0));
        CHECKS.due("no trouble", 0, late.week(1, 0, 1));
        CHECKS.due("no trouble", 0, late.week(1, 0, 2));
        CHECKS.due("the same week again", 1, late.week(1, 1, 1));
        CHECKS.dueThrow("n 101", Checks.ILLEGAL, () -> late.week(1, 101, 0));
        CHECKS.dueThrow("n -1", Checks.ILLEGAL, () -> late.week(1, -1, 2));
        CHECKS.dueThrow("what 3", Checks.NO_SUCH, () -> late.week(1, 1, 3));
        CHECKS.dueThrow("what before n", Checks.NO_SUCH, () -> late.week(1, 101, -1));
        LaneEyes noLooks = Checks.told("swimmer 0 0 0;last 7;");
        CHECKS.due("all never", 700, noLooks.week(-5, 100, 0));
        CHECKS.due("all late", 100, noLooks.week(-5, 100, 1));
        CHECKS.due("greatest", 7, noLooks.week(-5, 100, 2));
        LaneEyes safe = Checks.told("swimmer 0 0 0;last 7;trouble 0-1;look 0 0 1;");
        CHECKS.due("nobody can be in trouble", 0, safe.week(9, 50, 0));
        CHECKS.due("nobody can be in trouble", 0, safe.week(9, 50, 1));
        LaneEyes never = Checks.told("pool 2 1;swimmer 1 0 0;last 7;look 0 0 1;");
        CHECKS.due("never seen", 21, never.week(9, 3, 0));
        CHECKS.due("never seen", 3, never.week(9, 3, 1));
        CHECKS.due("never seen", 7, never.week(9, 3, 2));
    }

    private static void blind() {
        CHECKS.due("no looks", (1L << 40) - 1, new LaneEyes().blind());
        LaneEyes eyes = Checks.told("pool 3 1;needs 2;look 0 0 2;look 1 0 1;look 2 0 1;look 2 0 1;");
        CHECKS.due("too short a look", 2, eyes.blind());
        eyes.lasts(1, 2);
        CHECKS.due("long enough", 0, eyes.blind());
        LaneEyes far = Checks.told("look 7 4 4;look 0 0 1;");
        CHECKS.due("all others", (1L << 39) - 2, far.blind());
        far.lasts(0, 3);
        CHECKS.due("the last too", (1L << 40) - 2, far.blind());
    }

    private static void without() {
        LaneEyes eyes = Checks.told("pool 3 1;needs 2;swimmer 0 0 0;look 0 0 1;look 1 0 1;look 0 0 1;look 2 0 3;");
        CHECKS.due("as it is", -1, eyes.worst(0));
        CHECKS.due("two become one", 3 + 3, eyes.without(1));
        CHECKS.due("two become one round the end", 1 + 3, eyes.without(3));
        CHECKS.due("never", -1, eyes.without(0));
        CHECKS.due("the looks stay", 4, eyes.count(3));
        CHECKS.dueThrow("no such look", Checks.NO_SUCH, () -> eyes.without(4));
        CHECKS.dueThrow("no such look", Checks.NO_SUCH, () -> eyes.without(-1));
        LaneEyes lone = Checks.told("swimmer 0 0 0;look 0 0 1;");
        CHECKS.due("no look left", -1, lone.without(0));
        CHECKS.due("nobody in", 0, Checks.told("look 0 0 1;").without(0));
    }

    private static void risks() {
        LaneEyes eyes = Checks.told("pool 2 1;needs 1;last 3;swimmer 0 0 9;swimmer 1 0 7;look 0 0 1;look 1 0 1;look 0 0 3;");
        // swimmer 1 (3 of 4) is seen late from 2 of 5 seconds on? delays 2 1 5 4 3: from two
        risk(eyes, 3, 10);
        eyes.swim(1, 0);
        risk(eyes, 0, 1);
        LaneEyes never = Checks.told("pool 2 1;swimmer 1 0 0;look 0 0 1;");
        risk(never, 1, 1);
        risk(Checks.told("swimmer 0 0 0;"), 1, 1);
        risk(Checks.told("swimmer 0 0 0;trouble 0;"), 0, 1);
        risk(Checks.told("look 0 0 1;"), 0, 1);
        LaneEyes kept = Checks.told("pool 2 1;needs 1;last 1;swimmer 0 0 0;swimmer 1 0 1;trouble 100-200*skill+skill*250;look 0 0 1;");
        risk(kept, 1, 2);
        CHECKS.dueThrow("what 2", Checks.NO_SUCH, () -> kept.risk(2));
        CHECKS.dueThrow("what -1", Checks.NO_SUCH, () -> kept.risk(-1));
    }

    private static void risk(LaneEyes eyes, int upper, int lower) {
        CHECKS.due("upper", upper, eyes.risk(0));
        CHECKS.due("lower", lower, eyes.risk(1));
    }
}
