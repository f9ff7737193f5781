/** Promises 11 to 16, 39 and 40: acts, what undoes them, and the image. */
public final class ActsTest {
    private static final Checks CHECKS = new Checks("ActsTest");
    private static final String TEXT = "pool 3 2;swimmer 0 0 1;swimmer 2 1 2;look 0 0 1;look 1 0 2;look 2 1 3;chair 1 1;";

    public static void main(String[] args) {
        swims();
        chairs();
        lengths();
        changes();
        minutes();
        undone();
        fortyAreKept();
        images();
        CHECKS.end();
    }

    private static void swims() {
        LaneEyes eyes = Checks.told(TEXT);
        CHECKS.due("swim", 0, eyes.swim(0, 4));
        CHECKS.due("there", 4, eyes.swimmer(0, 0));
        CHECKS.due("swim to where he is", 4, eyes.swim(0, 4));
        CHECKS.due("acts", 2, eyes.count(11));
        CHECKS.due("no such cell", -1, eyes.swim(0, 6));
        CHECKS.due("no such cell", -1, eyes.swim(0, -1));
        CHECKS.due("refused", 2, eyes.count(16));
        CHECKS.dueThrow("no such swimmer", Checks.NO_SUCH, () -> eyes.swim(2, 0));
        CHECKS.dueThrow("no such swimmer, cell", Checks.NO_SUCH, () -> eyes.swim(-1, 99));
        CHECKS.due("acts still", 2, eyes.count(11));
        CHECKS.due("refused still", 2, eyes.count(16));
        CHECKS.due("the other stays", 5, eyes.swimmer(1, 0));
    }

    private static void chairs() {
        LaneEyes eyes = Checks.told(TEXT);
        CHECKS.due("chair", 4, eyes.chair(5));
        CHECKS.due("there", 5, eyes.count(4));
        CHECKS.due("far", 3, eyes.cell(0, 2));
        CHECKS.due("no such cell", -1, eyes.chair(6));
        CHECKS.due("no such cell", -1, eyes.chair(-1));
        CHECKS.due("refused", 2, eyes.count(16));
        CHECKS.due("acts", 1, eyes.count(11));
        CHECKS.due("undo", 0, eyes.undo());
        CHECKS.due("back", 4, eyes.count(4));
    }

    private static void lengths() {
        LaneEyes eyes = Checks.told(TEXT);
        CHECKS.due("lasts", 2, eyes.lasts(1, 9));
        CHECKS.due("so long", 9, eyes.look(1, 1));
        CHECKS.due("a round", 13, eyes.count(10));
        CHECKS.due("not 0", -1, eyes.lasts(1, 0));
        CHECKS.due("not 10", -1, eyes.lasts(1, 10));
        CHECKS.due("refused", 2, eyes.count(16));
        CHECKS.dueThrow("no such look", Checks.NO_SUCH, () -> eyes.lasts(3, 1));
        CHECKS.dueThrow("no such look, seconds", Checks.NO_SUCH, () -> eyes.lasts(-1, 0));
        CHECKS.due("refused still", 2, eyes.count(16));
        CHECKS.due("lasts 1", 9, eyes.lasts(1, 1));
        CHECKS.due("undo", 1, eyes.undo());
        CHECKS.due("back", 9, eyes.look(1, 1));
    }

    private static void changes() {
        LaneEyes eyes = Checks.told(TEXT);
        CHECKS.due("change", true, eyes.change(0, 2));
        CHECKS.due("cell", 5, eyes.look(0, 0));
        CHECKS.due("seconds", 3, eyes.look(0, 1));
        CHECKS.due("cell", 0, eyes.look(2, 0));
        CHECKS.due("seconds", 1, eyes.look(2, 1));
        CHECKS.due("both one", false, eyes.change(1, 1));
        CHECKS.due("no such", false, eyes.change(0, 3));
        CHECKS.due("no such", false, eyes.change(3, 0));
        CHECKS.due("no such", false, eyes.change(-1, 0));
        CHECKS.due("no such", false, eyes.change(0, -1));
        CHECKS.due("refused", 5, eyes.count(16));
        CHECKS.due("undo", 0, eyes.undo());
        CHECKS.due("back", 0, eyes.look(0, 0));
        CHECKS.due("back", 3, eyes.look(2, 1));
    }

    private static void minutes() {
        LaneEyes eyes = Checks.told(TEXT);
        CHECKS.due("minutes", 0, eyes.minutes(999));
        CHECKS.due("minutes", 999, eyes.minutes(0));
        CHECKS.due("not 1000", -1, eyes.minutes(1000));
        CHECKS.due("not -1", -1, eyes.minutes(-1));
        CHECKS.due("refused", 2, eyes.count(16));
        CHECKS.due("acts", 2, eyes.count(11));
        CHECKS.due("undo", 1, eyes.undo());
        CHECKS.due("back", 999, eyes.count(7));
    }

    private static void undone() {
        LaneEyes eyes = Checks.told(TEXT);
        CHECKS.due("nothing to undo", -1, eyes.undo());
        CHECKS.due("is not refused", 0, eyes.count(16));
        eyes.swim(1, 3);
        eyes.chair(0);
        eyes.change(0, 1);
        eyes.lasts(0, 7);
        eyes.minutes(50);
        CHECKS.due("minutes back", 4, eyes.undo());
        CHECKS.due("minutes", 0, eyes.count(7));
        CHECKS.due("seconds back", 3, eyes.undo());
        CHECKS.due("seconds", 2, eyes.look(0, 1));
        CHECKS.due("looks back", 2, eyes.undo());
        CHECKS.due("seconds", 1, eyes.look(0, 1));
        CHECKS.due("chair back", 1, eyes.undo());
        CHECKS.due("chair", 4, eyes.count(4));
        CHECKS.due("swimmer back", 0, eyes.undo());
        CHECKS.due("swimmer", 5, eyes.swimmer(1, 0));
        CHECKS.due("none left", -1, eyes.undo());
    }

    private static void fortyAreKept() {
        LaneEyes eyes = Checks.told(TEXT);
        for (int i = 1; i <= 43; i++) {
            eyes.minutes(i);
        }
        CHECKS.due("forty", 40, eyes.count(11));
        for (int left = 39; left >= 0; left--) {
            CHECKS.due("left", left, eyes.undo());
        }
        CHECKS.due("minutes", 3, eyes.count(7));
        CHECKS.due("none left", -1, eyes.undo());
    }

    private static void images() {
        LaneEyes eyes = Checks.told(TEXT);
        CHECKS.due("no image", false, eyes.restore());
        eyes.swim(0, 1);
        eyes.minutes(9);
        eyes.dummy(11);
        eyes.heads(0, 1);
        eyes.lengths();
        eyes.image();
        eyes.swim(0, 2);
        eyes.chair(0);
        eyes.lasts(2, 9);
        eyes.change(0, 1);
        eyes.minutes(8);
        eyes.swim(0, 99);
        eyes.forget();
        eyes.dummy(99);
        eyes.dummy(98);
        eyes.order();
        for (int times = 0; times < 2; times++) {
            CHECKS.due("restore", true, eyes.restore());
            CHECKS.due("swimmer", 1, eyes.swimmer(0, 0));
            CHECKS.due("chair", 4, eyes.count(4));
            CHECKS.due("look cell", 0, eyes.look(0, 0));
            CHECKS.due("look seconds", 3, eyes.look(2, 1));
            CHECKS.due("minutes", 9, eyes.count(7));
            CHECKS.due("acts", 2, eyes.count(11));
            CHECKS.due("dummies", 1, eyes.count(12));
            CHECKS.due("dummy", 11, eyes.dummies(2));
            CHECKS.due("heads", 1, eyes.count(13));
            CHECKS.due("status stays", 1, eyes.count(16));
            CHECKS.due("the latest row stays", 0, eyes.row(0));
            CHECKS.due("undo", 1, eyes.undo());
            CHECKS.due("minutes", 0, eyes.count(7));
            CHECKS.due("undo", 0, eyes.undo());
            CHECKS.due("swimmer", 0, eyes.swimmer(0, 0));
            eyes.heads(1, 1);
        }
        eyes.restore();
        eyes.forget();
        eyes.heads(1, 0);
        CHECKS.due("other heads", 2, eyes.missing(2));
        eyes.restore();
        CHECKS.due("the heads of the image", 0, eyes.missing(2));
        CHECKS.due("the heads of the image", 2, eyes.missing(0));
        eyes.chair(2);
        eyes.image();
        eyes.chair(3);
        CHECKS.due("in place of the other", true, eyes.restore());
        CHECKS.due("chair", 2, eyes.count(4));
    }
}
