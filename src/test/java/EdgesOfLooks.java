/** Boundary cases of Terms 2 and of promises 5 to 16: needs, delays, the worst, acts. */
final class EdgesOfLooks {
    private static final String ACTING = "pool 3 2;swimmer 0 0 1;swimmer 2 1 2;look 0 0 1;look 1 0 2;look 2 1 3;chair 1 1;";

    private final Sentences says;

    EdgesOfLooks(Sentences says) {
        this.says = says;
    }

    void all() {
        needs();
        tired();
        seen();
        delays();
        worstOfCells();
        worstOfAll();
        unseen();
        actsKept();
        counts();
        cells();
        looksAndSwimmers();
        delayCalls();
        worstCalls();
        swims();
        chairs();
        lasts();
        changes();
        minutes();
        undo();
    }

    // ---- Terms 2

    private void needs() {
        says.term(2, "NEED is what 'needs' gives (kept to 1 to 30; without one 1 and 'far' by 3, cut down, and 'glare')");
        String[] rules = {"0", "1", "2", "29", "30", "31", "9999", "0-1", "8192*8192*32", "8192*8192*32-1"};
        int[] want = {1, 1, 2, 29, 30, 30, 30, 1, 1, 30};
        for (int i = 0; i < rules.length; i++) {
            says.due("needs " + rules[i], want[i], Checks.told("needs " + rules[i] + ";").cell(0, 4));
        }
        LaneEyes without = Checks.told("glare 1 0 9;glare 7 4 9;");
        says.due("far 0", 1, without.cell(0, 4));
        says.due("far 1, glare 9", 10, without.cell(1, 4));
        says.due("far 2", 1, without.cell(2, 4));
        says.due("far 3", 2, without.cell(3, 4));
        says.due("far 5", 2, without.cell(5, 4));
        says.due("far 6", 3, without.cell(6, 4));
        says.due("far 8", 3, without.cell(4 * 8 + 4, 4));
        says.due("far 9", 4, without.cell(4 * 8 + 5, 4));
        says.due("far 11, glare 9", 13, without.cell(39, 4));
    }

    private void tired() {
        says.term(2, "'tired' is MINUTES since the SWAP by TIRE, cut down (0 at first)");
        LaneEyes eyes = Checks.told("needs 5+tired;");
        says.due("at first", 5, eyes.cell(0, 4));
        int[] minutes = {0, 19, 20, 39, 40, 499, 500};
        int[] want = {5, 5, 6, 6, 7, 29, 30};
        for (int i = 0; i < minutes.length; i++) {
            eyes.minutes(minutes[i]);
            says.due(minutes[i] + " by 20", want[i], eyes.cell(0, 4));
        }
        LaneEyes most = Checks.told("tire 99;needs 5+tired;");
        most.minutes(989);
        says.due("989 by 99", 14, most.cell(0, 4));
        most.minutes(990);
        says.due("990 by 99", 15, most.cell(0, 4));
        most.minutes(999);
        says.due("999 by 99", 15, most.cell(0, 4));
        LaneEyes least = Checks.told("tire 1;needs 1+(tired=999);");
        least.minutes(998);
        says.due("998 by 1", 1, least.cell(0, 4));
        least.minutes(999);
        says.due("999 by 1", 2, least.cell(0, 4));
    }

    private void seen() {
        says.term(2, "Trouble in a CELL is SEEN by a LOOK at it, as soon as it was looked at for NEED seconds one after the other"
            + " since it began");
        // cells 0 0 0 0 1 1: what was looked at before it began doesn't count
        delaysAre("pool 2 1;needs 3;look 0 0 4;look 1 0 2;", 0, 3, 3, 7, 6, 5, 4);
        delaysAre("pool 2 1;needs 4;look 0 0 4;look 1 0 2;", 0, 4, 9, 8, 7, 6, 5);
        delaysAre("pool 2 1;needs 5;look 0 0 4;look 1 0 2;", 0, -1, -1, -1, -1, -1, -1);
        // two looks of 2 with another between them are no 3
        delaysAre("pool 2 1;needs 3;look 0 0 2;look 1 0 1;look 0 0 2;look 1 0 1;", 0, -1, -1, -1, -1, -1, -1);

        says.term(2, "(LOOKS at one CELL one behind the other are one; from the end of a ROUND to its beginning too.)");
        delaysAre("pool 2 1;needs 4;look 0 0 2;look 0 0 2;look 1 0 2;", 0, 4, 9, 8, 7, 6, 5);
        delaysAre("pool 2 1;needs 4;look 0 0 2;look 1 0 2;look 0 0 2;", 0, 8, 7, 6, 5, 4, 9);
        delaysAre("pool 2 1;needs 3;look 0 0 1;look 1 0 2;look 0 0 1;look 0 0 1;", 0, 6, 5, 4, 3, 7);
        delaysAre("pool 2 1;needs 30;look 0 0 1;look 0 0 1;look 0 0 1;", 0, 30, 30, 30);
        delaysAre("pool 2 1;needs 30;look 0 0 9;", 0, 30, 30, 30, 30, 30, 30, 30, 30, 30);

        says.term(2, "Second 0 of a ROUND is the first of LOOK 0.");
        String text = "pool 3 1;needs 1;look 0 0 2;look 1 0 3;look 2 0 1;";
        delaysAre(text, 0, 1, 1, 5, 4, 3, 2);
        delaysAre(text, 1, 3, 2, 1, 1, 1, 4);
        delaysAre(text, 2, 6, 5, 4, 3, 2, 1);
        LaneEyes changed = Checks.told(text);
        changed.change(0, 1);
        int[] want = {1, 1, 1, 4, 3, 2};
        for (int second = 0; second < 6; second++) {
            says.due("changed over, from " + second + " on", want[second], changed.delay(1, second));
        }
    }

    private void delaysAre(String text, int cell, int... want) {
        LaneEyes eyes = Checks.told(text);
        says.due("seconds of " + text, want.length, eyes.count(10));
        for (int second = 0; second < want.length; second++) {
            says.due("delay(" + cell + ", " + second + ") of " + text, want[second], eyes.delay(cell, second));
        }
    }

    private void delays() {
        says.term(2, "DELAY of a CELL from a second of a ROUND on (0 to its SECONDS, all together, less 1)");
        LaneEyes one = Checks.told("pool 1 1;needs 1;look 0 0 1;");
        says.due("the only second", 1, one.delay(0, 0));
        says.dueThrow("no second 1", Checks.NO_SUCH, () -> one.delay(0, 1));
        LaneEyes most = Checks.told("pool 2 1;needs 1;look 0 0 9;" + "look 1 0 9;".repeat(11));
        says.due("the last of 108", 2, most.delay(0, 107));
        says.due("the last of 108, looked at", 1, most.delay(1, 107));
        says.due("the first behind LOOK 0", 100, most.delay(0, 9));
        says.dueThrow("no second 108", Checks.NO_SUCH, () -> most.delay(0, 108));

        says.term(2, "how many seconds there are from that one on until it is SEEN (that in which it is the last of them counts)");
        delaysAre("pool 2 1;needs 1;look 0 0 1;look 1 0 1;", 0, 1, 2);
        delaysAre("pool 2 1;needs 1;look 0 0 1;look 1 0 1;", 1, 2, 1);
        delaysAre("pool 2 1;needs 2;look 0 0 2;look 1 0 1;", 0, 2, 4, 3);

        says.term(2, "never, if it never is");
        delaysAre("pool 2 1;needs 2;look 0 0 2;look 1 0 1;", 1, -1, -1, -1);
        delaysAre("pool 3 1;needs 1;look 0 0 1;look 1 0 1;", 2, -1, -1);
    }

    private void worstOfCells() {
        says.term(2, "THE WORST of a CELL: the greatest DELAY, or never.");
        LaneEyes eyes = Checks.told("pool 3 1;needs 2;look 0 0 3;look 1 0 2;look 2 0 1;");
        says.due("of CELL 0", 6, eyes.cell(0, 5));
        says.due("of CELL 1", 7, eyes.cell(1, 5));
        says.due("of CELL 2", -1, eyes.cell(2, 5));
        // cell 0 for 36 seconds, then cell 1 for 72: 29 seconds left, 72 elsewhere, 30 again
        LaneEyes most = Checks.told("pool 2 1;needs 30;" + "look 0 0 9;".repeat(4) + "look 1 0 9;".repeat(8));
        says.due("the longest ROUND", 131, most.cell(0, 5));
        says.due("from second 6 on", 30, most.delay(0, 6));
        says.due("from second 7 on", 131, most.delay(0, 7));
        says.due("the other CELL", 29 + 36 + 30, most.cell(1, 5));
        says.due("without LOOKS", -1, Checks.told("pool 2 1;").cell(1, 5));
        // two gaps, 3 and 5 seconds; and a stretch that is too short for a third
        LaneEyes gaps = Checks.told("pool 2 1;needs 2;look 0 0 2;look 1 0 3;look 0 0 2;look 1 0 2;look 0 0 1;look 1 0 2;");
        says.due("the greater gap", 1 + 5 + 2, gaps.cell(0, 5));
        // 54 seconds elsewhere, 9 at cell 0, 45 elsewhere
        LaneEyes middle = Checks.told("pool 2 1;needs 9;last 115;" + "look 1 0 9;".repeat(6) + "look 0 0 9;" + "look 1 0 9;".repeat(5));
        says.due("from its first second on", 9, middle.delay(0, 54));
        says.due("from its second one on", 8 + 45 + 54 + 9, middle.delay(0, 55));
        says.due("from the last of the ROUND on", 1 + 54 + 9, middle.delay(0, 107));
        says.due("the greatest", 116, middle.cell(0, 5));
        says.due("one second is above LAST", 1, middle.cell(0, 6));
    }

    private void worstOfAll() {
        says.term(2, "THE WORST of all: of CELLS with a SWIMMER in them, never being worst of all; nobody in: 0.");
        String text = "pool 3 1;needs 2;look 0 0 3;look 1 0 2;look 2 0 1;";
        says.due("nobody in", 0, Checks.told(text).worst(0));
        says.due("in CELL 0", 6, Checks.told(text + "swimmer 0 0 0;").worst(0));
        says.due("in CELLS 0 and 1", 7, Checks.told(text + "swimmer 1 0 0;swimmer 0 0 0;").worst(0));
        says.due("never", -1, Checks.told(text + "swimmer 2 0 0;").worst(0));
        says.due("never is worst", -1, Checks.told(text + "swimmer 2 0 0;swimmer 1 0 0;").worst(0));
        says.due("never is worst", -1, Checks.told(text + "swimmer 1 0 0;swimmer 2 0 0;").worst(0));
        says.due("nobody in, no LOOKS", 0, Checks.told("pool 3 1;").worst(0));
        says.due("somebody in, no LOOKS", -1, Checks.told("pool 3 1;swimmer 0 0 0;").worst(0));
    }

    private void unseen() {
        says.term(2, "UNSEEN seconds: of a CELL, those of a ROUND from which on DELAY is above LAST (or never).");
        String text = "pool 2 1;needs 4;look 0 0 4;look 1 0 2;last ";
        int[] last = {1, 3, 4, 5, 6, 7, 8, 9, 300};
        int[] want = {6, 6, 5, 4, 3, 2, 1, 0, 0};
        for (int i = 0; i < last.length; i++) {
            LaneEyes eyes = Checks.told(text + last[i] + ";");
            says.due("LAST " + last[i], want[i], eyes.cell(0, 6));
            says.due("never, LAST " + last[i], 6, eyes.cell(1, 6));
        }
        says.due("never, 108 seconds", 108, Checks.told("look 0 0 9;".repeat(12)).cell(1, 6));
        says.due("without LOOKS no second", 0, Checks.told("last 1;").cell(0, 6));
        LaneEyes shorter = Checks.told("pool 2 1;needs 1;look 0 0 1;look 1 0 9;last 1;swimmer 0 0 0;");
        says.due("a ROUND of 10", 9, shorter.cell(0, 6));
        shorter.lasts(1, 1);
        says.due("a ROUND of 2", 1, shorter.cell(0, 6));
        says.due("of which two see all", 1, shorter.two(2));
    }

    private void actsKept() {
        says.term(2, "ACTS (at most 40 are kept, the latest ones)");
        LaneEyes eyes = Checks.told(ACTING);
        eyes.swim(0, 3);
        eyes.chair(0);
        for (int i = 1; i <= 38; i++) {
            eyes.minutes(i);
        }
        says.due("40", 40, eyes.count(11));
        eyes.lasts(0, 9);
        says.due("41 are 40", 40, eyes.count(11));
        eyes.change(0, 1);
        says.due("42 are 40", 40, eyes.count(11));
        eyes.chair(-1);
        says.due("a refused one is none", 40, eyes.count(11));
        for (int left = 39; left >= 0; left--) {
            says.due("undo", left, eyes.undo());
        }
        says.due("no more", -1, eyes.undo());
        says.due("the first ACT is not undone", 3, eyes.swimmer(0, 0));
        says.due("the second ACT is not undone", 0, eyes.count(4));
        says.due("the third ACT is", 0, eyes.count(7));
        says.due("LOOK 0", 1, eyes.look(0, 1));
        for (int i = 0; i < 100; i++) {
            eyes.minutes(i);
        }
        says.due("100 are 40", 40, eyes.count(11));
        for (int i = 0; i < 40; i++) {
            eyes.undo();
        }
        says.due("back by 40", 59, eyes.count(7));

        says.term(2, "a SWIMMER goes to another CELL; THE CHAIR does; a LOOK becomes longer or shorter (1 to 9);"
            + " two LOOKS are changed over; MINUTES since the SWAP become others (0 to 999). They are UNDONE, the last one first.");
        LaneEyes each = Checks.told(ACTING);
        each.swim(1, 0);
        each.swim(1, 1);
        each.chair(5);
        each.chair(3);
        each.lasts(2, 1);
        each.lasts(2, 9);
        each.change(0, 2);
        each.change(1, 2);
        each.minutes(999);
        each.minutes(1);
        int[][] want = {{1, 3, 5, 9, 0, 999}, {1, 3, 5, 9, 0, 0}, {1, 3, 5, 9, 1, 0}, {1, 3, 0, 1, 1, 0}, {1, 3, 0, 1, 1, 0},
            {1, 3, 0, 1, 1, 0}, {1, 5, 0, 1, 1, 0}, {1, 4, 0, 1, 1, 0}, {0, 4, 0, 1, 1, 0}, {5, 4, 0, 1, 1, 0}};
        int[] third = {2, 2, 1, 9, 1, 3, 3, 3, 3, 3};
        for (int i = 0; i < want.length; i++) {
            says.due("undo", 9 - i, each.undo());
            says.due(i + ": the SWIMMER", want[i][0], each.swimmer(1, 0));
            says.due(i + ": THE CHAIR", want[i][1], each.count(4));
            says.due(i + ": the CELL of LOOK 0", want[i][2], each.look(0, 0));
            says.due(i + ": SECONDS of LOOK 0", want[i][3], each.look(0, 1));
            says.due(i + ": the CELL of LOOK 1", want[i][4], each.look(1, 0));
            says.due(i + ": MINUTES", want[i][5], each.count(7));
            says.due(i + ": SECONDS of LOOK 2", third[i], each.look(2, 1));
        }
    }

    // ---- promises 5 to 10

    private void counts() {
        says.promise(5, "0 W, 1 H, 2 SWIMMERS, 3 LOOKS, 4 the CELL of THE CHAIR, 5 LAST, 6 TIRE, 7 MINUTES since the SWAP, 8 GAMES,"
            + " 9 CASES, 10 SECONDS of a ROUND, 11 ACTS that are kept, 12 DUMMIES, 13 HEADS, 14 bytes of the tape,"
            + " 15 to 17 STATUS 0 to 2, 18 how many CELLS are looked at in a ROUND (each once).");
        LaneEyes eyes = new LaneEyes();
        Checks.tell(eyes, "whale");
        Checks.tell(eyes, "pool 7 4;" + "swimmer 0 0 0;".repeat(2) + "look 0 0 6;look 1 0 7;look 0 0 8;look 0 1 9;look 0 0 5;chair 6 3;last 61;"
            + "tire 21;" + "game 1;".repeat(3) + "case 0 0 0 0 fun;".repeat(10));
        for (int i = 1; i <= 11; i++) {
            eyes.minutes(i);
        }
        for (int i = 0; i < 12; i++) {
            eyes.dummy(i);
        }
        for (int i = 0; i < 8; i++) {
            eyes.heads(0, i);
        }
        eyes.chair(28);
        eyes.lasts(0, 10);
        eyes.dummy(0);
        eyes.dummy(0);
        eyes.heads(0, 0);
        eyes.feed(0, 0, 0, 0, 0);
        int[] want = {7, 4, 2, 5, 27, 61, 21, 11, 3, 10, 35, 11, 12, 8, 20, 1, 2, 3, 3};
        for (int what = 0; what < want.length; what++) {
            says.due("count(" + what + ")", want[what], eyes.count(what));
        }

        says.promise(5, "NoSuchElementException: another what.");
        for (int what : new int[] {-1, 19, 20, Integer.MIN_VALUE, Integer.MAX_VALUE}) {
            says.dueThrow("count(" + what + ")", Checks.NO_SUCH, () -> eyes.count(what));
        }
    }

    private void cells() {
        says.promise(6, "0 DEPTH, 1 GLARE, 2 how far THE CHAIR is, 3 who is in it (bits), 4 NEED, 5 THE WORST (NONE: never),"
            + " 6 UNSEEN seconds.");
        LaneEyes eyes = Checks.told("pool 4 2;deep 3 1 9;glare 3 1 2;" + "swimmer 3 1 0;".repeat(12) + "look 3 1 4;look 0 0 2;last 5;");
        int[] want = {9, 2, 4, 4095, 1 + 1 + 2, 9, 4};
        for (int what = 0; what < want.length; what++) {
            says.due("cell(7, " + what + ")", want[what], eyes.cell(7, what));
        }
        int[] empty = {3, 0, 3, 0, 2, -1, 6};
        for (int what = 0; what < empty.length; what++) {
            says.due("cell(3, " + what + ")", empty[what], eyes.cell(3, what));
        }
        eyes.swim(0, 3);
        eyes.swim(11, 3);
        says.due("the others", 4095 - 1 - 2048, eyes.cell(7, 3));
        says.due("the first and the last", 1 + 2048, eyes.cell(3, 3));

        says.promise(6, "NoSuchElementException: no such CELL (as everywhere), what.");
        for (int cell : new int[] {-1, 8, 39, 40, Integer.MIN_VALUE, Integer.MAX_VALUE}) {
            for (int what = 0; what <= 6; what++) {
                int asked = what;
                says.dueThrow("cell(" + cell + ", " + what + ")", Checks.NO_SUCH, () -> eyes.cell(cell, asked));
            }
        }
        for (int what : new int[] {-1, 7, Integer.MIN_VALUE, Integer.MAX_VALUE}) {
            says.dueThrow("cell(0, " + what + ")", Checks.NO_SUCH, () -> eyes.cell(0, what));
            says.dueThrow("cell(8, " + what + ")", Checks.NO_SUCH, () -> eyes.cell(8, what));
        }
    }

    private void looksAndSwimmers() {
        LaneEyes eyes = Checks.told(ACTING);
        LaneEyes none = Checks.told("pool 3 2;");
        says.promise(7, "Of a LOOK: 0 its CELL, 1 SECONDS.");
        says.due("CELL", 5, eyes.look(2, 0));
        says.due("SECONDS", 3, eyes.look(2, 1));

        says.promise(7, "NoSuchElementException: no such LOOK (as everywhere), what.");
        for (int look : new int[] {-1, 3, 11, 12, Integer.MIN_VALUE, Integer.MAX_VALUE}) {
            says.dueThrow("look(" + look + ", 0)", Checks.NO_SUCH, () -> eyes.look(look, 0));
            says.dueThrow("look(" + look + ", 1)", Checks.NO_SUCH, () -> eyes.look(look, 1));
        }
        for (int what : new int[] {-1, 2, Integer.MIN_VALUE, Integer.MAX_VALUE}) {
            says.dueThrow("look(0, " + what + ")", Checks.NO_SUCH, () -> eyes.look(0, what));
        }
        says.dueThrow("without LOOKS", Checks.NO_SUCH, () -> none.look(0, 0));

        says.promise(8, "Of a SWIMMER: 0 his CELL, 1 SKILL, 2 what 'trouble' gives.");
        says.due("CELL", 5, eyes.swimmer(1, 0));
        says.due("SKILL", 2, eyes.swimmer(1, 1));
        says.due("10 less SKILL", 8, eyes.swimmer(1, 2));
        says.due("10 less 9", 1, Checks.told("swimmer 0 0 9;").swimmer(0, 2));
        says.due("10 less 0", 10, Checks.told("swimmer 0 0 0;").swimmer(0, 2));
        says.due("trouble 0", 0, Checks.told("swimmer 0 0 0;trouble 0;").swimmer(0, 2));
        says.due("trouble 99", 99, Checks.told("swimmer 0 0 0;trouble 99;").swimmer(0, 2));

        says.promise(8, "NoSuchElementException: no such SWIMMER (as everywhere), what.");
        for (int swimmer : new int[] {-1, 2, 11, 12, Integer.MIN_VALUE, Integer.MAX_VALUE}) {
            for (int what = 0; what <= 2; what++) {
                int asked = what;
                says.dueThrow("swimmer(" + swimmer + ", " + what + ")", Checks.NO_SUCH, () -> eyes.swimmer(swimmer, asked));
            }
        }
        for (int what : new int[] {-1, 3, Integer.MIN_VALUE, Integer.MAX_VALUE}) {
            says.dueThrow("swimmer(0, " + what + ")", Checks.NO_SUCH, () -> eyes.swimmer(0, what));
        }
        says.dueThrow("nobody in", Checks.NO_SUCH, () -> none.swimmer(0, 0));
    }

    private void delayCalls() {
        says.promise(9, "DELAY; NONE: never.");
        LaneEyes eyes = Checks.told("pool 3 2;needs 1;look 0 0 1;look 1 0 2;");
        says.due("DELAY", 3, eyes.delay(0, 1));
        says.due("never", -1, eyes.delay(5, 2));

        says.promise(9, "NoSuchElementException: also no such second (none without LOOKS).");
        for (int second : new int[] {-1, 3, 108, Integer.MIN_VALUE, Integer.MAX_VALUE}) {
            says.dueThrow("second " + second, Checks.NO_SUCH, () -> eyes.delay(0, second));
            says.dueThrow("never, second " + second, Checks.NO_SUCH, () -> eyes.delay(5, second));
        }
        for (int cell : new int[] {-1, 6, 40, Integer.MIN_VALUE, Integer.MAX_VALUE}) {
            says.dueThrow("CELL " + cell, Checks.NO_SUCH, () -> eyes.delay(cell, 0));
            says.dueThrow("CELL " + cell, Checks.NO_SUCH, () -> eyes.delay(cell, -1));
        }
        eyes.lasts(0, 2);
        says.due("a second more", 1 + 1, eyes.delay(0, 3));
        says.dueThrow("and no other", Checks.NO_SUCH, () -> eyes.delay(0, 4));
        LaneEyes none = Checks.told("pool 3 2;swimmer 0 0 0;");
        says.dueThrow("without LOOKS", Checks.NO_SUCH, () -> none.delay(0, 0));
    }

    private void worstCalls() {
        says.promise(10, "THE WORST of all (what 0; NONE: never), the least CELL that has it (1; NONE: nobody is in).");
        LaneEyes like = Checks.told("pool 4 1;needs 1;look 2 0 1;look 1 0 1;look 3 0 1;look 0 0 1;swimmer 3 0 0;swimmer 1 0 0;swimmer 2 0 0;");
        says.due("all alike", 4, like.worst(0));
        says.due("the least with a SWIMMER", 1, like.worst(1));
        LaneEyes never = Checks.told("pool 4 1;needs 1;look 0 0 1;swimmer 3 0 0;swimmer 0 0 0;swimmer 2 0 0;");
        says.due("never", -1, never.worst(0));
        says.due("the least of never", 2, never.worst(1));
        LaneEyes last = Checks.told("needs 1;look 0 0 1;swimmer 7 4 0;");
        says.due("the last CELL", 39, last.worst(1));
        LaneEyes nobody = Checks.told("needs 1;look 0 0 1;");
        says.due("nobody", 0, nobody.worst(0));
        says.due("nobody", -1, nobody.worst(1));

        says.promise(10, "NoSuchElementException: another what.");
        for (int what : new int[] {-1, 2, Integer.MIN_VALUE, Integer.MAX_VALUE}) {
            says.dueThrow("worst(" + what + ")", Checks.NO_SUCH, () -> like.worst(what));
            says.dueThrow("worst(" + what + ")", Checks.NO_SUCH, () -> nobody.worst(what));
        }
    }

    // ---- promises 11 to 16

    /** What a refused ACT must leave: all but STATUS 1. */
    private void refused(LaneEyes eyes, int times, String what) {
        int[] counts = {3, 2, 2, 3, 4, 60, 20, 0, 0, 0, 6, 0, 0, 0, 0, 0, times, 0, 3};
        for (int i = 0; i < counts.length; i++) {
            says.due("count(" + i + ") behind " + what, counts[i], eyes.count(i));
        }
        says.due("SWIMMER 0 behind " + what, 0, eyes.swimmer(0, 0));
        says.due("SWIMMER 1 behind " + what, 5, eyes.swimmer(1, 0));
        int[] looks = {0, 1, 1, 2, 5, 3};
        for (int i = 0; i < looks.length; i++) {
            says.due("LOOK " + i / 2 + " behind " + what, looks[i], eyes.look(i / 2, i % 2));
        }
        says.due("no ACT to undo behind " + what, -1, eyes.undo());
    }

    private void swims() {
        says.promise(11, "An ACT: a SWIMMER goes: the CELL as it was.");
        LaneEyes goes = Checks.told(ACTING);
        says.due("to the last", 0, goes.swim(0, 5));
        says.due("to the first", 5, goes.swim(0, 0));
        says.due("where he is", 0, goes.swim(0, 0));
        says.due("ACTS", 3, goes.count(11));
        says.due("the other", 5, goes.swim(1, 4));

        says.promise(11, "NONE (STATUS 1): no such CELL.");
        LaneEyes eyes = Checks.told(ACTING);
        int[] cells = {-1, 6, 39, 40, Integer.MIN_VALUE, Integer.MAX_VALUE};
        for (int i = 0; i < cells.length; i++) {
            says.due("CELL " + cells[i], -1, eyes.swim(1, cells[i]));
            refused(eyes, i + 1, "swim(1, " + cells[i] + ")");
        }
        for (int swimmer : new int[] {-1, 2, 12, Integer.MIN_VALUE, Integer.MAX_VALUE}) {
            says.dueThrow("no such SWIMMER", Checks.NO_SUCH, () -> eyes.swim(swimmer, 0));
            says.dueThrow("no such SWIMMER, CELL", Checks.NO_SUCH, () -> eyes.swim(swimmer, 6));
            refused(eyes, cells.length, "swim(" + swimmer + ", 0)");
        }
    }

    private void chairs() {
        says.promise(12, "An ACT: THE CHAIR: the CELL as it was.");
        LaneEyes goes = Checks.told(ACTING);
        says.due("to the last", 4, goes.chair(5));
        says.due("to the first", 5, goes.chair(0));
        says.due("where it is", 0, goes.chair(0));
        says.due("ACTS", 3, goes.count(11));

        says.promise(12, "NONE (STATUS 1): no such CELL.");
        LaneEyes eyes = Checks.told(ACTING);
        int[] cells = {-1, 6, 39, 40, Integer.MIN_VALUE, Integer.MAX_VALUE};
        for (int i = 0; i < cells.length; i++) {
            says.due("CELL " + cells[i], -1, eyes.chair(cells[i]));
            refused(eyes, i + 1, "chair(" + cells[i] + ")");
        }
    }

    private void lasts() {
        says.promise(13, "An ACT: SECONDS of a LOOK: as they were.");
        LaneEyes goes = Checks.told(ACTING);
        says.due("9", 1, goes.lasts(0, 9));
        says.due("1", 9, goes.lasts(0, 1));
        says.due("1 again", 1, goes.lasts(0, 1));
        says.due("ACTS", 3, goes.count(11));

        says.promise(13, "NONE (STATUS 1): not 1 to 9.");
        LaneEyes eyes = Checks.told(ACTING);
        int[] seconds = {0, 10, -1, Integer.MIN_VALUE, Integer.MAX_VALUE};
        for (int i = 0; i < seconds.length; i++) {
            says.due(seconds[i] + " SECONDS", -1, eyes.lasts(2, seconds[i]));
            refused(eyes, i + 1, "lasts(2, " + seconds[i] + ")");
        }
        for (int look : new int[] {-1, 3, 12, Integer.MIN_VALUE, Integer.MAX_VALUE}) {
            says.dueThrow("no such LOOK", Checks.NO_SUCH, () -> eyes.lasts(look, 1));
            says.dueThrow("no such LOOK, SECONDS", Checks.NO_SUCH, () -> eyes.lasts(look, 10));
            refused(eyes, seconds.length, "lasts(" + look + ", 1)");
        }
    }

    private void changes() {
        says.promise(14, "An ACT: two LOOKS are changed over: true.");
        LaneEyes goes = Checks.told(ACTING);
        says.due("first and last", true, goes.change(0, 2));
        says.due("CELL", 5, goes.look(0, 0));
        says.due("SECONDS", 3, goes.look(0, 1));
        says.due("CELL", 0, goes.look(2, 0));
        says.due("SECONDS", 1, goes.look(2, 1));
        says.due("back again", true, goes.change(2, 0));
        says.due("CELL", 0, goes.look(0, 0));
        says.due("ACTS", 2, goes.count(11));
        LaneEyes alike = Checks.told("look 0 0 1;look 0 0 1;");
        says.due("two that are alike", true, alike.change(0, 1));
        says.due("are an ACT", 1, alike.count(11));

        says.promise(14, "False (STATUS 1): no such ones, both are one.");
        LaneEyes eyes = Checks.told(ACTING);
        int[][] pairs = {{0, 0}, {2, 2}, {0, 3}, {3, 0}, {-1, 0}, {0, -1}, {-1, -1}, {3, 3}, {12, 1}, {1, 12},
            {Integer.MIN_VALUE, 0}, {0, Integer.MAX_VALUE}, {Integer.MAX_VALUE, Integer.MIN_VALUE}};
        for (int i = 0; i < pairs.length; i++) {
            says.due(pairs[i][0] + " and " + pairs[i][1], false, eyes.change(pairs[i][0], pairs[i][1]));
            refused(eyes, i + 1, "change(" + pairs[i][0] + ", " + pairs[i][1] + ")");
        }
        LaneEyes none = Checks.told("last 1;");
        says.due("without LOOKS", false, none.change(0, 1));
        says.due("STATUS 1", 1, none.count(16));
    }

    private void minutes() {
        says.promise(15, "An ACT: MINUTES since the SWAP: as they were.");
        LaneEyes goes = Checks.told(ACTING);
        says.due("999", 0, goes.minutes(999));
        says.due("0", 999, goes.minutes(0));
        says.due("0 again", 0, goes.minutes(0));
        says.due("ACTS", 3, goes.count(11));

        says.promise(15, "NONE (STATUS 1): not 0 to 999.");
        LaneEyes eyes = Checks.told(ACTING);
        int[] minutes = {-1, 1000, Integer.MIN_VALUE, Integer.MAX_VALUE};
        for (int i = 0; i < minutes.length; i++) {
            says.due(minutes[i] + " MINUTES", -1, eyes.minutes(minutes[i]));
            refused(eyes, i + 1, "minutes(" + minutes[i] + ")");
        }
    }

    private void undo() {
        says.promise(16, "The last ACT is UNDONE: how many are left.");
        LaneEyes eyes = Checks.told(ACTING);
        eyes.minutes(5);
        eyes.minutes(5);
        eyes.chair(99);
        says.due("the same once more", 1, eyes.undo());
        says.due("MINUTES", 5, eyes.count(7));
        says.due("the first", 0, eyes.undo());
        says.due("MINUTES", 0, eyes.count(7));

        says.promise(16, "NONE: there is none.");
        for (int i = 0; i < 3; i++) {
            says.due("undo()", -1, eyes.undo());
            says.due("no refused ACT", 1, eyes.count(16));
            says.due("ACTS", 0, eyes.count(11));
        }
        eyes.minutes(6);
        says.due("it goes on", 0, eyes.undo());
        says.due("a new object", -1, new LaneEyes().undo());
    }
}
