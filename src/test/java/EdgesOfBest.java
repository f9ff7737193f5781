/** Boundary cases of Terms 3 and of promises 17 to 25: what is best, looking away, swaps, crowds, two who share it. */
final class EdgesOfBest {
    /** The worst is 2 and twice the need for needs up to 5, never above. */
    private static final String PAIR = "pool 2 1;swimmer 0 0 0;look 0 0 5;look 1 0 3;";

    private final Sentences says;

    EdgesOfBest(Sentences says) {
        this.says = says;
    }

    void all() {
        orders();
        lengths();
        chairs();
        away();
        swaps();
        crowds();
        crowdsAsTheyAre();
        halves();
        both();
        orderCalls();
        rows();
        bestCalls();
        noneOfThem();
        twoCalls();
    }

    private void row(LaneEyes eyes, int... want) {
        for (int i = 0; i < want.length; i++) {
            says.due("row(" + i + ")", want[i], eyes.row(i));
        }
        for (int i : new int[] {-1, want.length, 12, Integer.MIN_VALUE, Integer.MAX_VALUE}) {
            says.dueThrow("row(" + i + ")", Checks.NO_SUCH, () -> eyes.row(i));
        }
    }

    // ---- Terms 3

    private void order(String text, int worst, int... row) {
        LaneEyes eyes = Checks.told(text);
        says.due("order() of " + text, worst, eyes.order());
        row(eyes, row);
    }

    private void orders() {
        says.term(3, "THE BEST ORDER: LOOK 0 first, the others in any order: by which THE WORST of all is least;"
            + " of like ones the first as a row of LOOKS.");
        order("pool 2 1;needs 1;swimmer 0 0 0;look 0 0 1;", 1, 0);
        order("pool 2 1;needs 1;swimmer 1 0 0;look 0 0 1;look 1 0 1;", 2, 0, 1);
        // looks 1 and 3 must come side by side, and look 0 stays first though its cell doesn't matter
        order("pool 3 1;needs 2;swimmer 0 0 0;look 1 0 1;look 0 0 1;look 2 0 1;look 0 0 1;", 5, 0, 1, 3, 2);
        // looks 0 and 2 side by side round the end: 0 1 3 2 comes before 0 2 1 3
        order("pool 3 1;needs 2;swimmer 1 0 0;look 1 0 1;look 0 0 1;look 1 0 1;look 2 0 1;", 5, 0, 1, 3, 2);
        // each look goes with its seconds: 9 elsewhere on one side, 4 and 5 on the other
        order("pool 3 1;needs 1;swimmer 0 0 0;look 0 0 1;look 1 0 4;look 1 0 9;look 0 0 1;look 2 0 5;", 10, 0, 1, 4, 3, 2);
        // look 1 must be far from look 0, so that look 2 comes before it
        order("pool 2 1;needs 1;swimmer 0 0 0;look 0 0 1;look 0 0 1;look 1 0 3;look 1 0 3;", 4, 0, 2, 1, 3);
        order("pool 2 1;needs 1;swimmer 0 0 0;" + "look 0 0 1;".repeat(3) + "look 1 0 3;".repeat(3), 4, 0, 3, 1, 4, 2, 5);
        // looks 5 and 6 must be beside look 0 (need 3), and 2 beside 4 (need 2)
        order("pool 3 1;needs 3-far;swimmer 0 0 0;swimmer 1 0 0;look 0 0 1;look 2 0 1;look 1 0 1;look 2 0 1;look 1 0 1;look 0 0 1;"
            + "look 0 0 1;", 2 + 4 + 3, 0, 1, 2, 4, 3, 5, 6);
        order("pool 2 1;needs 1;swimmer 0 0 0;" + "look 0 0 1;".repeat(7), 1, 0, 1, 2, 3, 4, 5, 6);
        order("pool 2 1;needs 1;" + "look 1 0 2;".repeat(3), 0, 0, 1, 2);

        says.term(3, "SPENT above 7 LOOKS.");
        for (int looks = 0; looks <= 12; looks++) {
            says.due(looks + " LOOKS", looks > 7 ? -2 : 0, Checks.told("look 0 0 1;".repeat(looks)).order());
        }
    }

    private void lengthsAre(String text, int worst, int... row) {
        LaneEyes eyes = Checks.told(text);
        says.due("lengths() of " + text, worst, eyes.lengths());
        row(eyes, row);
    }

    private void lengths() {
        says.term(3, "THE BEST LENGTHS: each LOOK 1 to 4 SECONDS, by which THE WORST of all is least,"
            + " of like ones the first as a row (LOOK 0 first).");
        lengthsAre("pool 2 1;needs 4;swimmer 0 0 0;swimmer 1 0 0;look 0 0 9;look 1 0 9;", 3 + 4 + 4, 4, 4);
        lengthsAre("pool 2 1;needs 5;swimmer 0 0 0;look 0 0 9;look 1 0 9;", -1, 1, 1);
        lengthsAre("pool 2 1;needs 5;swimmer 0 0 0;look 0 0 9;look 0 0 9;look 1 0 9;", 4 + 1 + 5, 1, 4, 1);
        lengthsAre("pool 2 1;needs 6;swimmer 0 0 0;look 0 0 9;look 1 0 9;look 0 0 9;", 5 + 1 + 6, 2, 1, 4);
        lengthsAre("pool 2 1;needs 30;swimmer 0 0 0;look 0 0 9;", 30, 1);
        lengthsAre("pool 2 1;needs 1;look 0 0 9;look 1 0 9;", 0, 1, 1);
        lengthsAre("pool 2 1;needs 4;swimmer 0 0 0;look 0 0 1;look 1 0 1;look 1 0 1;look 1 0 1;look 1 0 1;", 3 + 4 + 4, 4, 1, 1, 1, 1);

        says.term(3, "SPENT above 5 LOOKS.");
        for (int looks = 0; looks <= 12; looks++) {
            says.due(looks + " LOOKS", looks > 5 ? -2 : 0, Checks.told("look 0 0 1;".repeat(looks)).lengths());
        }
    }

    private void chairs() {
        says.term(3, "THE BEST CHAIR: the CELL by which THE WORST of all is least, of like ones the least.");
        best("needs far+1;swimmer 7 4 0;look 7 4 1;look 0 0 1;", 39, 2);
        best("needs far+1;swimmer 0 0 0;look 7 4 1;look 0 0 1;chair 5 3;", 0, 2);
        best("needs 1;swimmer 7 4 0;look 7 4 1;look 0 0 1;chair 5 3;", 0, 2);
        best("pool 1 1;needs far+1;swimmer 0 0 0;look 0 0 1;", 0, 1);
        // chairs 3 and 4 are as good for both
        best("pool 8 1;needs far+1;swimmer 0 0 0;swimmer 7 0 0;look 0 0 9;look 7 0 9;", 3, 4 + 9 + 5);
        best("swimmer 1 1 0;look 0 0 1;chair 5 3;", 0, -1);
        best("look 0 0 1;chair 5 3;", 0, 0);
    }

    private void best(String text, int cell, int worst) {
        LaneEyes eyes = Checks.told(text);
        int chair = eyes.count(4);
        says.due("best(0) of " + text, cell, eyes.best(0));
        says.due("best(1) of " + text, worst, eyes.best(1));
        says.due("THE CHAIR stays", chair, eyes.count(4));
    }

    private void away(String text, int... want) {
        LaneEyes eyes = Checks.told(text);
        for (int look = 0; look < want.length; look++) {
            says.due("away(" + look + ") of " + text, want[look], eyes.away(look));
        }
    }

    private void away() {
        says.term(3, "AWAY: the greatest number of seconds (0 to 99) for which he may look nowhere, once in each ROUND, behind a LOOK,"
            + " so that THE WORST of all is no more than LAST; none.");
        int[] last = {1, 2, 60, 99, 100, 101, 300};
        int[] want = {0, 1, 59, 98, 99, 99, 99};
        for (int i = 0; i < last.length; i++) {
            away("pool 1 1;needs 1;swimmer 0 0 0;look 0 0 1;last " + last[i] + ";", want[i]);
        }
        away("pool 1 1;needs 2;swimmer 0 0 0;look 0 0 1;last 1;", -1);
        away("pool 2 1;needs 2;swimmer 0 0 0;look 0 0 2;look 1 0 3;last 5;", -1, -1);
        away("pool 2 1;needs 2;swimmer 0 0 0;look 0 0 2;look 1 0 3;last 6;", 0, 0);
        away("pool 2 1;needs 2;swimmer 0 0 0;look 0 0 2;look 1 0 3;last 7;", 1, 1);
        // to look away parts two looks, in the midst and at the end of the round; 0 seconds don't
        away("pool 2 1;needs 2;swimmer 0 0 0;look 0 0 1;look 0 0 1;look 1 0 3;last 60;", 0, 54, 54);
        away("pool 2 1;needs 2;swimmer 0 0 0;look 0 0 1;look 1 0 3;look 0 0 1;last 60;", 54, 54, 0);
        away("pool 1 1;needs 2;swimmer 0 0 0;look 0 0 1;look 0 0 1;last 60;", 57, 57);
        away("pool 1 1;needs 3;swimmer 0 0 0;look 0 0 1;look 0 0 1;last 60;", 0, 0);
        away("pool 2 1;needs 1;swimmer 1 0 0;look 0 0 1;last 300;", -1);
        away("pool 2 1;needs 1;look 0 0 1;look 0 0 9;last 1;", 99, 99);
        String longest = "pool 2 1;needs 30;swimmer 0 0 0;" + "look 0 0 9;".repeat(4) + "look 1 0 9;".repeat(8);
        away(longest + "last 230;", 0, 0, 0, 99, 99, 99, 99, 99, 99, 99, 99, 99);
        away(longest + "last 229;", 0, 0, 0, 98, 98, 98, 98, 98, 98, 98, 98, 98);
        away(longest + "last 131;", 0, 0, 0, 0, 0, 0, 0, 0, 0, 0, 0, 0);
        away(longest + "last 130;", -1, -1, -1, -1, -1, -1, -1, -1, -1, -1, -1, -1);
    }

    private void swap(String text, int want) {
        LaneEyes eyes = Checks.told(text);
        says.due("swap() of " + text, want, eyes.swap());
        eyes.minutes(999);
        says.due("swap() of " + text + " later", want, eyes.swap());
        says.due("MINUTES stay", 999, eyes.count(7));
    }

    private void swaps() {
        says.term(3, "THE SWAP: the last of MINUTES (0 to 999) up to which, from 0 on, THE WORST of all is no more than LAST; none.");
        swap(PAIR + "last 5;tire 1;needs 1+(999<tired);", 999);
        swap(PAIR + "last 5;tire 1;needs 1+(998<tired);", 998);
        swap(PAIR + "last 5;tire 1;needs 1+(0<tired);", 0);
        swap(PAIR + "last 5;tire 1;needs 1+(0-1<tired);", -1);
        swap(PAIR + "last 5;tire 1;needs 1+(tired=7);", 6);
        swap(PAIR + "last 5;tire 1;needs 1+(tired=0);", -1);
        swap(PAIR + "last 5;tire 99;needs 1+(tired=10);", 989);
        swap(PAIR + "last 5;tire 99;needs 1+(tired=11);", 999);
        swap(PAIR + "last 5;tire 20;needs 1+(tired=49);", 979);
        swap(PAIR + "last 5;tire 20;needs 1+(tired=1);", 19);
        swap(PAIR + "last 6;tire 20;needs 1+(tired=1);", 999);
        swap(PAIR + "last 6;tire 20;needs 2*(tired+1);", 19);
        swap(PAIR + "last 5;needs 2;", -1);
        swap(PAIR + "last 6;needs 2;", 999);
        swap("look 0 0 1;", 999);
        swap("swimmer 0 0 0;", -1);
        swap("", 999);
    }

    private void many(String text, int want) {
        says.due("many() of " + text, want, Checks.told(text).many());
    }

    private void crowds() {
        says.term(3, "HOW MANY: the greatest number (0 to 40) so that, were as many more in each CELL with a SWIMMER, and any fewer too,"
            + " THE WORST of all would be no more than LAST; none.");
        many(PAIR + "last 5;needs 1+(41<crowd);", 40);
        many(PAIR + "last 5;needs 1+(40<crowd);", 39);
        many(PAIR + "last 5;needs 1+(1<crowd);", 0);
        many(PAIR + "last 5;needs 1+(0<crowd);", -1);
        many(PAIR + "last 5;needs 1+(crowd=3);", 1);
        many(PAIR + "last 5;needs 1+(crowd=1);", -1);
        many(PAIR + "last 5;needs 2;", -1);
        many(PAIR + "last 6;needs 2;", 40);
        // three more are in the same cell, so that it begins with four
        many(PAIR + "swimmer 0 0 0;swimmer 0 0 0;swimmer 0 0 0;last 5;needs 1+(5<crowd);", 1);
        // cell 1 holds two, cell 0 one: the worst of cell 1 is 5 and twice the need less 1
        many(PAIR + "swimmer 1 0 0;swimmer 1 0 0;last 6;needs 1+(5<crowd);", 3);
        many("pool 2 1;look 0 0 1;", 40);
        many("pool 2 1;swimmer 0 0 0;", -1);
        many("", 40);
    }

    /** But for HOW MANY, a crowd is as it is: two are in the cell, so its need is 2. */
    private void crowdsAsTheyAre() {
        LaneEyes eyes = Checks.told("pool 2 1;needs crowd;swimmer 0 0 0;swimmer 0 0 0;look 0 0 5;look 1 0 3;last 8;");
        says.due("NEED", 2, eyes.cell(0, 4));
        says.due("delay", 6, eyes.delay(0, 4));
        says.due("worst", 6, eyes.worst(0));
        says.due("without", 2, eyes.without(1));
        says.due("order", 6, eyes.order());
        says.due("lengths", 4, eyes.lengths());
        says.due("best", 6, eyes.best(1));
        says.due("away", 2, eyes.away(0));
        says.due("halves", 2, eyes.halves(1));
        says.due("both", 2, eyes.two(2));
        says.due("many", 1, eyes.many());
        says.due("as it is still", 6, eyes.worst(0));
        says.due("swap", 999, eyes.swap());
        says.due("swap of LAST 6", 999, Checks.told("pool 2 1;needs crowd;swimmer 0 0 0;swimmer 0 0 0;look 0 0 5;look 1 0 3;last 6;").swap());
        says.due("swap of LAST 5", -1, Checks.told("pool 2 1;needs crowd;swimmer 0 0 0;swimmer 0 0 0;look 0 0 5;look 1 0 3;last 5;").swap());
    }

    private void halves() {
        says.term(3, "HALVES: the first looks at CELLS left of x alone, the second at the others (x from 1 to W less 1),"
            + " each by the LOOKS of the ROUND at these alone, one behind the other, from THE CHAIR:"
            + " THE WORST of all then, the best x (of like ones the least).");
        StringBuilder all = new StringBuilder("pool 8 1;needs 1;");
        for (int x = 0; x < 8; x++) {
            all.append("look ").append(x).append(" 0 1;swimmer ").append(x).append(" 0 0;");
        }
        halves(all.toString(), 4, 7, 6, 5, 4, 5, 6, 7);
        halves("pool 3 1;needs 1;look 0 0 1;look 1 0 1;look 2 0 1;swimmer 0 0 0;swimmer 1 0 0;swimmer 2 0 0;", 1, 2, 2);
        halves("pool 3 1;needs 1;look 0 0 1;look 1 0 1;look 2 0 2;swimmer 0 0 0;swimmer 1 0 0;swimmer 2 0 0;", 2, 3, 2);
        halves("pool 2 1;needs 1;look 0 0 9;look 1 0 9;swimmer 0 0 0;swimmer 1 0 0;", 1, 1);
        // looks that were parted become one, round the end too
        halves("pool 2 1;needs 9;look 0 0 1;look 1 0 1;look 0 0 1;swimmer 0 0 0;swimmer 1 0 0;", 1, 9);
        halves("pool 4 1;look 3 0 1;look 0 0 1;swimmer 3 0 0;", 1, 2, 2, 2);
        halves("pool 4 1;look 3 0 1;look 0 0 1;swimmer 3 0 0;chair 3 0;", 1, 1, 1, 1);
        halves("pool 3 1;needs 1;look 0 0 1;swimmer 2 0 0;", 1, -1, -1);
        // x cuts along all rows of cells
        halves("pool 3 2;needs 1;look 0 1 1;look 1 0 1;look 2 1 3;swimmer 0 1 0;swimmer 1 0 0;", 2, 4, 2);
        halves("pool 3 1;look 0 0 1;", 1, 0, 0);
        halves("pool 3 1;swimmer 0 0 0;", 1, -1, -1);
    }

    /** What halves() answers for x 1 to W less 1, and which of them is best. */
    private void halves(String text, int best, int... worst) {
        LaneEyes eyes = Checks.told(text);
        says.due("W", worst.length + 1, eyes.count(0));
        for (int x = 1; x <= worst.length; x++) {
            says.due("halves(" + x + ") of " + text, worst[x - 1], eyes.halves(x));
        }
        says.due("two(0) of " + text, best, eyes.two(0));
        says.due("two(1) of " + text, worst[best - 1], eyes.two(1));
    }

    private void both(String text, int want) {
        says.due("two(2) of " + text, want, Checks.told(text).two(2));
    }

    private void both() {
        says.term(3, "BOTH all: the second does the same as the first, half a ROUND later (its SECONDS by 2, cut down):"
            + " trouble is SEEN as soon as one of them would see it: THE WORST of all.");
        // half of one second is none: both do the same
        both("pool 1 1;needs 3;swimmer 0 0 0;look 0 0 1;", 3);
        both("pool 2 1;needs 1;swimmer 0 0 0;look 0 0 1;look 1 0 1;", 1);
        // delays 1 3 2, half is 1: 1 or 2, 3 or 1, 2 or 3
        both("pool 2 1;needs 1;swimmer 0 0 0;look 0 0 1;look 1 0 2;", 2);
        // delays 2 5 4 3, half is 2; the one doesn't go on where the other leaves off
        both("pool 2 1;needs 2;swimmer 0 0 0;look 0 0 2;look 1 0 2;", 3);
        // delays 2 8 7 6 5 4 3, half is 3
        both("pool 2 1;needs 2;swimmer 0 0 0;look 0 0 2;look 1 0 5;", 5);
        both("pool 2 1;needs 3;swimmer 0 0 0;look 0 0 2;look 1 0 2;", -1);
        both("pool 2 1;needs 1;swimmer 1 0 0;look 0 0 2;", -1);
        both("pool 2 1;needs 1;swimmer 1 0 0;", -1);
        both("pool 2 1;needs 1;look 0 0 2;", 0);
        both("pool 2 1;", 0);
    }

    // ---- promises 17 to 25

    private void orderCalls() {
        says.promise(17, "THE BEST ORDER: THE WORST by it (NONE: never); the row is kept");
        LaneEyes never = Checks.told("pool 2 1;needs 1;swimmer 1 0 0;look 0 0 1;look 0 0 1;look 0 0 1;");
        says.due("never", -1, never.order());
        row(never, 0, 1, 2);
        LaneEyes noLooks = Checks.told("swimmer 0 0 0;");
        says.due("without LOOKS", -1, noLooks.order());
        row(noLooks);
        LaneEyes eyes = Checks.told("pool 3 1;needs 1;swimmer 1 0 0;look 0 0 2;look 1 0 1;look 1 0 1;look 2 0 2;");
        says.due("the best", 3, eyes.order());
        row(eyes, 0, 1, 3, 2);
        says.due("the ROUND stays", 5, eyes.worst(0));
        says.due("no ACT", 0, eyes.count(11));

        says.promise(17, "-2: SPENT (what is kept stays)");
        LaneEyes eight = Checks.told("look 0 0 1;".repeat(8));
        says.due("eight LOOKS", -2, eight.order());
        row(eight);
        says.due("no refused ACT", 0, eight.count(16));

        says.promise(18, "THE BEST LENGTHS: likewise.");
        LaneEyes six = Checks.told("pool 3 1;needs 1;swimmer 1 0 0;look 0 0 2;look 1 0 1;look 1 0 1;look 2 0 2;look 0 0 1;look 2 0 1;");
        says.due("six LOOKS, nothing is kept", -2, six.lengths());
        row(six);
        says.due("the best order", 4, six.order());
        row(six, 0, 1, 3, 4, 2, 5);
        says.due("six LOOKS, SPENT", -2, six.lengths());
        row(six, 0, 1, 3, 4, 2, 5);
        LaneEyes short4 = Checks.told("pool 2 1;needs 5;swimmer 0 0 0;look 0 0 9;look 1 0 9;");
        says.due("never", -1, short4.lengths());
        row(short4, 1, 1);
        LaneEyes alone = Checks.told("swimmer 0 0 0;");
        says.due("without LOOKS", -1, alone.lengths());
        row(alone);
    }

    private void rows() {
        says.promise(19, "The i-th of the row that is kept: of order() which LOOK, of lengths() SECONDS (of the latest of both).");
        LaneEyes eyes = Checks.told("pool 3 1;needs 2;swimmer 1 0 0;look 1 0 1;look 0 0 1;look 1 0 1;look 2 0 1;");
        eyes.order();
        row(eyes, 0, 1, 3, 2);
        eyes.lengths();
        row(eyes, 2, 1, 2, 1);
        eyes.image();
        eyes.order();
        row(eyes, 0, 1, 3, 2);
        eyes.swim(0, 0);
        eyes.change(1, 2);
        eyes.undo();
        eyes.restore();
        row(eyes, 0, 1, 3, 2);

        says.promise(19, "NoSuchElementException: none is kept, there is none.");
        LaneEyes none = Checks.told("pool 2 1;look 0 0 1;look 1 0 1;");
        for (int i : new int[] {-1, 0, 1, 2, Integer.MIN_VALUE, Integer.MAX_VALUE}) {
            says.dueThrow("none is kept: row(" + i + ")", Checks.NO_SUCH, () -> none.row(i));
        }
        none.lengths();
        row(none, 1, 1);
        none.order();
        row(none, 0, 1);
    }

    private void bestCalls() {
        says.promise(20, "THE BEST CHAIR: the CELL (what 0), THE WORST by it (1; NONE: never).");
        best("pool 8 1;needs far+1;swimmer 7 0 0;look 7 0 1;look 0 0 1;", 7, 2);
        best("pool 8 1;swimmer 7 0 0;", 0, -1);

        says.promise(20, "NoSuchElementException: another what.");
        LaneEyes eyes = new LaneEyes();
        for (int what : new int[] {-1, 2, Integer.MIN_VALUE, Integer.MAX_VALUE}) {
            says.dueThrow("best(" + what + ")", Checks.NO_SUCH, () -> eyes.best(what));
        }
    }

    private void noneOfThem() {
        says.promise(21, "AWAY behind a LOOK; NONE: none.");
        LaneEyes eyes = Checks.told("pool 1 1;needs 2;swimmer 0 0 0;look 0 0 1;look 0 0 1;last 1;");
        says.due("behind LOOK 0", -1, eyes.away(0));
        says.due("behind LOOK 1", -1, eyes.away(1));
        for (int look : new int[] {-1, 2, 12, Integer.MIN_VALUE, Integer.MAX_VALUE}) {
            says.dueThrow("away(" + look + ")", Checks.NO_SUCH, () -> eyes.away(look));
        }
        LaneEyes noLooks = new LaneEyes();
        says.dueThrow("without LOOKS", Checks.NO_SUCH, () -> noLooks.away(0));
        says.due("SECONDS of the ROUND stay", 2, eyes.count(10));

        says.promise(22, "THE SWAP; NONE: none.");
        says.due("none", -1, eyes.swap());
        says.promise(23, "HOW MANY; NONE: none.");
        says.due("none", -1, eyes.many());
        says.due("nobody is more", 1, eyes.cell(0, 3));
    }

    private void twoCalls() {
        says.promise(24, "HALVES: THE WORST (NONE: never).");
        LaneEyes eyes = Checks.told("pool 3 1;needs 1;look 0 0 1;look 1 0 1;swimmer 0 0 0;");
        says.due("x 1", 1, eyes.halves(1));
        says.due("x 2", 2, eyes.halves(2));
        eyes.swim(0, 2);
        says.due("never", -1, eyes.halves(1));

        says.promise(24, "IllegalArgumentException: no such x.");
        for (int x : new int[] {0, 3, 8, -1, Integer.MIN_VALUE, Integer.MAX_VALUE}) {
            says.dueThrow("halves(" + x + ")", Checks.ILLEGAL, () -> eyes.halves(x));
        }
        for (int w = 1; w <= 8; w++) {
            LaneEyes wide = Checks.told("pool " + w + " 5;");
            int width = w;
            says.dueThrow("W " + w + ", x 0", Checks.ILLEGAL, () -> wide.halves(0));
            says.dueThrow("W " + w + ", x " + w, Checks.ILLEGAL, () -> wide.halves(width));
            for (int x = 1; x < w; x++) {
                says.due("W " + w + ", x " + x, 0, wide.halves(x));
            }
        }

        says.promise(25, "HALVES: the best x (what 0; NONE: W is 1), THE WORST by it (1; NONE also then), BOTH all (2; NONE: never).");
        LaneEyes narrow = Checks.told("pool 1 5;needs 1;look 0 0 1;look 0 1 1;swimmer 0 0 0;");
        says.due("W is 1", -1, narrow.two(0));
        says.due("W is 1", -1, narrow.two(1));
        says.due("W is 1, BOTH", 1, narrow.two(2));
        says.due("never, the least x", 1, eyes.two(0));
        says.due("never", -1, eyes.two(1));
        says.due("never, BOTH", -1, eyes.two(2));

        says.promise(25, "NoSuchElementException: another what.");
        for (int what : new int[] {-1, 3, Integer.MIN_VALUE, Integer.MAX_VALUE}) {
            says.dueThrow("two(" + what + ")", Checks.NO_SUCH, () -> eyes.two(what));
            says.dueThrow("W is 1, two(" + what + ")", Checks.NO_SUCH, () -> narrow.two(what));
        }
    }
}
