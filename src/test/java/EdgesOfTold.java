/** Boundary cases of Terms 4 and of promises 26 to 40: games, dummies, heads, weeks, risks, the image. */
final class EdgesOfTold {
    private static final int[] NO_WHATS = {-1, Integer.MIN_VALUE, Integer.MAX_VALUE};

    private final Sentences says;

    EdgesOfTold(Sentences says) {
        this.says = says;
    }

    void all() {
        games();
        jumps();
        dummies();
        more();
        heads();
        missing();
        weeks();
        blindAndWithout();
        risks();
        status();
        gameCalls();
        dummyCalls();
        headCalls();
        forget();
        missingCalls();
        weekCalls();
        blindCalls();
        riskCalls();
        images();
        restores();
    }

    // ---- Terms 4: games and jumps

    private void games() {
        says.term(4, "a GAME says it is fun, if it gives something but 0: of all CASES, how many are FALSE (fun, but it says trouble),"
            + " MISSED (trouble, but it says fun).");
        String cases = "case 0 0 0 0 fun;case 9 9 9 9 fun;case 0 0 0 0 trouble;";
        wrong(cases + "game 0;", 2, 0);
        wrong(cases + "game 1;", 0, 1);
        wrong(cases + "game 0-1;", 0, 1);
        wrong(cases + "game 2;", 0, 1);
        wrong(cases + "game 8192*8192*32;", 0, 1);
        wrong(cases + "game 8192*8192*64;", 2, 0);
        wrong(cases + "game legs;", 1, 0);
        wrong(cases + "game not legs;", 1, 1);
        wrong("game 0;", 0, 0);
        wrong("game 1;", 0, 0);
        wrong("case 1 1 1 1 fun;".repeat(10) + "game 0;", 10, 0);
        wrong("case 1 1 1 1 trouble;".repeat(10) + "game 1;", 0, 10);

        says.term(4, "THE BEST GAME: by which MISSED by 3 and FALSE, together, are fewest, of like ones the first; none without GAMES.");
        String fun = "case 1 0 0 0 fun;";
        says.due("3 FALSE, 1 MISSED", 0, Checks.told(fun.repeat(3) + "case 0 0 0 0 trouble;game 0;game 1;").fun());
        says.due("1 MISSED, 3 FALSE", 0, Checks.told(fun.repeat(3) + "case 0 0 0 0 trouble;game 1;game 0;").fun());
        says.due("1 MISSED, 2 FALSE", 1, Checks.told(fun.repeat(2) + "case 0 0 0 0 trouble;game 1;game 0;").fun());
        says.due("4 FALSE, 1 MISSED", 1, Checks.told(fun.repeat(4) + "case 0 0 0 0 trouble;game 0;game 1;").fun());
        says.due("the last of four", 3, Checks.told(fun + "game 0;game 0;game 0;game 1;").fun());
        says.due("without CASES the first", 0, Checks.told("game 0;game 1;game 0;game 1;").fun());
        says.due("one GAME, all wrong", 0, Checks.told(fun.repeat(10) + "game 0;").fun());
        says.due("none without GAMES", -1, Checks.told(fun).fun());
    }

    private void wrong(String text, int wrongly, int missed) {
        LaneEyes eyes = Checks.told(text);
        says.due("FALSE of " + text, wrongly, eyes.game(0, 0));
        says.due("MISSED of " + text, missed, eyes.game(0, 1));
    }

    private void jumps() {
        says.term(4, "TO JUMP: a jump costs so much (1 to 999), trouble that is left so much more (1 to 999): the least number of tenths"
            + " (0 to 10) how likely it is trouble by which these by what is left are as much as the others (10 less these)"
            + " by what a jump costs, or more.");
        int[][] want = {{1, 1, 5}, {999, 999, 5}, {998, 999, 5}, {999, 998, 6}, {1, 9, 1}, {1, 8, 2}, {1, 999, 1}, {111, 999, 1},
            {112, 999, 2}, {9, 1, 9}, {10, 1, 10}, {999, 1, 10}, {999, 111, 9}, {999, 110, 10}, {3, 7, 3}, {7, 3, 7}, {8, 3, 8}};
        LaneEyes eyes = new LaneEyes();
        for (int[] one : want) {
            says.due("jump(" + one[0] + ", " + one[1] + ")", one[2], eyes.jump(one[0], one[1]));
        }
    }

    // ---- Terms 4: dummies and heads

    private static LaneEyes measured(String text, int... delays) {
        LaneEyes eyes = Checks.told(text);
        for (int delay : delays) {
            eyes.dummy(delay);
        }
        return eyes;
    }

    private static int[] times(int many, int number) {
        int[] row = new int[many];
        java.util.Arrays.fill(row, number);
        return row;
    }

    private void told(LaneEyes eyes, int upper, int lower, int greatest, int above) {
        says.due("upper part", upper, eyes.dummies(0));
        says.due("lower part", lower, eyes.dummies(1));
        says.due("greatest", greatest, eyes.dummies(2));
        says.due("above LAST", above, eyes.dummies(3));
    }

    private void dummies() {
        says.term(4, "DUMMIES (at most 12): DELAYS that were measured (0 to 999): the mean as a fraction in lowest terms, the greatest,"
            + " how many are above LAST.");
        told(measured("last 300;"), 0, 1, -1, 0);
        told(measured("last 300;", 0), 0, 1, 0, 0);
        told(measured("last 300;", 0, 0, 0), 0, 1, 0, 0);
        told(measured("last 300;", times(12, 999)), 999, 1, 999, 12);
        told(measured("last 300;", times(13, 999)), 999, 1, 999, 12);
        told(measured("last 300;", 1, 0, 0, 0, 0, 0, 0, 0, 0, 0, 0, 0), 1, 12, 1, 0);
        told(measured("last 1;", 2, 2, 2, 0), 3, 2, 2, 3);
        told(measured("last 2;", 2, 1, 3), 2, 1, 3, 1);
        told(measured("last 300;", 300, 301, 299), 300, 1, 301, 1);
        told(measured("last 60;", 61, 60), 121, 2, 61, 1);
        told(measured("last 60;", 8, 0, 0, 0, 0, 0, 0, 0, 0, 0, 0, 0), 2, 3, 8, 0);
        told(measured("last 60;", 5, 1000, -1), 5, 1, 5, 0);
    }

    private void more() {
        says.term(4, "MORE: how many DUMMIES more, each seen at once (0), there must be so that the mean is no more than so much (1 to 999).");
        LaneEyes full = measured("last 1;", times(12, 999));
        says.due("mean 999", 0, full.more(999));
        says.due("mean 998", 1, full.more(998));
        says.due("mean 1", 12 * 999 - 12, full.more(1));
        says.due("none of these comes", 12, full.count(12));
        LaneEyes two = measured("last 1;", 7, 8);
        says.due("mean 8", 0, two.more(8));
        says.due("mean 7", 1, two.more(7));
        says.due("mean 5", 1, two.more(5));
        says.due("mean 4", 2, two.more(4));
        says.due("mean 3", 3, two.more(3));
        says.due("mean 1", 13, two.more(1));
        says.due("without DUMMIES", 0, measured("last 1;").more(1));
        says.due("all seen at once", 0, measured("last 1;", 0, 0).more(1));
        says.due("as much", 0, measured("last 1;", 1).more(1));
        says.due("one more", 1, measured("last 1;", 2).more(1));
    }

    private void heads() {
        says.term(4, "HEADS (at most 8): in a row of CELLS (y) so many (0 to 12) were counted.");
        LaneEyes eyes = Checks.told("pool 1 5;" + "swimmer 0 4 0;".repeat(12));
        says.due("12 in the last row", 1, eyes.heads(4, 12));
        absent(eyes, 1, 0, 0);
        says.due("0 in the first row", 2, eyes.heads(0, 0));
        absent(eyes, 1, 0, 0);
        for (int i = 3; i <= 8; i++) {
            says.due("HEADS " + i, i, eyes.heads(i % 4, 0));
        }
        says.due("no ninth", -1, eyes.heads(4, 0));
        absent(eyes, 1, 0, 0);
        eyes.forget();
        eyes.heads(4, 0);
        absent(eyes, 1, 4095, 4095);
    }

    private void absent(LaneEyes eyes, int sets, int fewest, int inAll) {
        says.due("sets", sets, eyes.missing(0));
        says.due("the fewest", fewest, eyes.missing(1));
        says.due("in all", inAll, eyes.missing(2));
    }

    private void missing() {
        says.term(4, "MISSING: sets of SWIMMERS who aren't there, by which all HEADS are so: how many; the fewest (of like ones the least"
            + " as bits); those who are in all of them; none.");
        LaneEyes twelve = Checks.told("pool 1 2;" + "swimmer 0 0 0;".repeat(12));
        absent(twelve, 4096, 0, 0);
        twelve.heads(1, 0);
        absent(twelve, 4096, 0, 0);
        twelve.heads(0, 6);
        absent(twelve, 924, 63, 0);
        twelve.forget();
        twelve.heads(0, 11);
        absent(twelve, 12, 1, 0);
        twelve.forget();
        twelve.heads(0, 1);
        absent(twelve, 12, 2047, 0);
        twelve.heads(0, 1);
        absent(twelve, 12, 2047, 0);
        twelve.heads(0, 2);
        absent(twelve, 0, -1, 0);
        twelve.forget();
        twelve.heads(1, 1);
        absent(twelve, 0, -1, 0);
        LaneEyes rows = Checks.told("pool 2 3;swimmer 0 1 0;swimmer 1 0 0;swimmer 1 1 0;swimmer 0 0 0;swimmer 0 2 0;");
        rows.heads(1, 1);
        absent(rows, 2 * 8, 1, 0);
        rows.heads(0, 1);
        absent(rows, 2 * 2 * 2, 1 + 2, 0);
        rows.heads(2, 0);
        absent(rows, 2 * 2, 1 + 2 + 16, 16);
        rows.heads(0, 3);
        absent(rows, 0, -1, 0);
        LaneEyes nobody = Checks.told("pool 2 2;");
        absent(nobody, 1, 0, 0);
        nobody.heads(0, 0);
        absent(nobody, 1, 0, 0);
        nobody.heads(1, 1);
        absent(nobody, 0, -1, 0);
    }

    // ---- Terms 4: weeks

    /** Delays of three cells in rounds of cells 0 1 0 0 0 0; the third one is never seen. */
    private static final int[][] DELAYS = {{1, 2, 1, 1, 1, 1}, {2, 1, 6, 5, 4, 3}, {999, 999, 999, 999, 999, 999}};
    private static final String WEEK = "pool 3 1;needs 1;look 0 0 1;look 1 0 1;look 0 0 4;";

    private void weekIs(String text, int last, int... weights) {
        LaneEyes eyes = Checks.told(text + "last " + last + ";");
        for (int seed : new int[] {0, 1, -1, 77, Integer.MIN_VALUE, Integer.MAX_VALUE, 1 << 16, -12345}) {
            for (int n : new int[] {0, 1, 2, 99, 100}) {
                int[] want = weekOf(seed, n, last, weights);
                for (int what = 0; what < 3; what++) {
                    says.due("week(" + seed + ", " + n + ", " + what + ") of " + text, want[what], eyes.week(seed, n, what));
                }
            }
        }
    }

    private static int[] weekOf(int first, int n, int last, int[] weights) {
        int all = 0;
        for (int weight : weights) {
            all += weight;
        }
        int[] week = new int[3];
        long seed = first;
        for (int i = 0; i < n && all > 0; i++) {
            seed = (int) (seed * 1103515245L + 12345L);
            int drawn = (int) ((seed & 0x7fff0000L) / 65536) % all;
            int swimmer = 0;
            while (drawn >= weights[swimmer]) {
                drawn -= weights[swimmer];
                swimmer++;
            }
            seed = (int) (seed * 1103515245L + 12345L);
            int delay = DELAYS[swimmer][(int) ((seed & 0x7fff0000L) / 65536) % 6];
            week[0] += Math.min(delay, last);
            week[1] += delay > last ? 1 : 0;
            week[2] = Math.max(week[2], Math.min(delay, last));
        }
        return week;
    }

    private void weeks() {
        String three = WEEK + "swimmer 0 0 9;swimmer 1 0 7;swimmer 2 0 0;";
        says.term(4, "A WEEK by a seed: n times (0 to 100) trouble: a SWIMMER is drawn by what 'trouble' gives of each (kept to 0 to 99;"
            + " without one 10 less SKILL;");
        weekIs(three, 4, 1, 3, 10);
        weekIs(three + "trouble skill;", 4, 9, 7, 0);
        weekIs(three + "trouble 99;", 4, 99, 99, 99);
        weekIs(three + "trouble 100;", 4, 99, 99, 99);
        weekIs(three + "trouble 1000-100*skill;", 4, 99, 99, 99);
        weekIs(three + "trouble skill-8;", 4, 1, 0, 0);
        weekIs(three + "trouble 8-skill;", 4, 0, 1, 8);
        weekIs(three + "trouble (skill-8)*8192*8192*32;", 4, 0, 0, 0);
        weekIs(three + "trouble (skill-8)*8192*8192;", 4, 99, 0, 0);

        says.term(4, "a DRAW of all together; none, and nothing is drawn, if that is 0), then a second of a ROUND");
        weekIs(three + "trouble 0;", 4, 0, 0, 0);
        weekIs(three + "trouble 0-1;", 4, 0, 0, 0);
        weekIs(WEEK, 4);
        weekIs(three + "trouble skill=9;", 4, 1, 0, 0);
        weekIs(three + "trouble skill=0;", 4, 0, 0, 1);

        says.term(4, "all DELAYS together (of never, or above LAST, LAST); how many were above LAST, or never; the greatest.");
        for (int last : new int[] {1, 2, 3, 5, 6, 7, 300}) {
            weekIs(WEEK + "swimmer 0 0 9;swimmer 1 0 9;", last, 1, 1);
            weekIs(WEEK + "swimmer 0 0 9;swimmer 1 0 9;swimmer 2 0 9;", last, 1, 1, 1);
        }

        says.term(4, "(Without LOOKS: all never, and no second is drawn.)");
        LaneEyes noLooks = Checks.told("swimmer 0 0 0;last 300;");
        for (int n : new int[] {0, 1, 100}) {
            says.due("all never", 300 * n, noLooks.week(5, n, 0));
            says.due("all never", n, noLooks.week(5, n, 1));
            says.due("all never", n == 0 ? 0 : 300, noLooks.week(5, n, 2));
        }
        says.due("nobody can", 0, Checks.told("swimmer 0 0 0;trouble 0;").week(5, 100, 1));

        says.term(4, "A seed becomes itself times 1103515245 and 12345 (an int that wraps); a DRAW of n is its bits 16 to 30 MOD n then.");
        // seed 1 becomes 1103527590, then -1770082073, of which bits 16 to 30 are 5758
        LaneEyes one = Checks.told("pool 2 1;needs 1;last 60;swimmer 0 0 0;look 0 0 1;" + "look 1 0 9;".repeat(11));
        says.due("second 5758 MOD 100", 101 - 58, one.week(1, 1, 0));
        // seed 0 becomes 12345, then -740551042 (21468), -1492899873, -698016724 (22117)
        says.due("second 21468 MOD 100", 101 - 68, one.week(0, 1, 0));
        says.due("and second 22117 MOD 100", 101 - 68 + 60, one.week(0, 2, 0));
        says.due("which is above LAST", 1, one.week(0, 2, 1));
        says.due("the greatest", 60, one.week(0, 2, 2));
    }

    // ---- Terms 4: blind, without, risks, status

    private void blindAndWithout() {
        says.term(4, "BLIND are CELLS in which trouble is never SEEN, whatever second it begins in.");
        LaneEyes eyes = Checks.told("pool 3 1;needs 2;look 0 0 2;look 1 0 1;look 2 0 1;look 2 0 1;");
        says.due("looked at too shortly", 2, eyes.blind());
        says.due("all of 40", (1L << 40) - 1, Checks.told("last 1;").blind());
        says.due("all of 1", 1, Checks.told("pool 1 1;").blind());
        says.due("none of 1", 0, Checks.told("pool 1 1;needs 30;look 0 0 1;").blind());
        says.due("all but the last", (1L << 39) - 1, Checks.told("look 7 4 1;").blind());

        says.term(4, "WITHOUT a LOOK, it left out of the ROUND: THE WORST of all.");
        LaneEyes left = Checks.told("pool 3 1;needs 2;swimmer 0 0 0;look 0 0 1;look 1 0 1;look 0 0 1;look 2 0 3;");
        says.due("LOOKS that become one", 1 + 3 + 2, left.without(1));
        says.due("round the end too", 1 + 1 + 2, left.without(3));
        says.due("never", -1, left.without(2));
        says.due("the ROUND stays", 6, left.count(10));
        says.due("the only one", -1, Checks.told("swimmer 0 0 0;look 0 0 1;").without(0));
        says.due("the only one, nobody in", 0, Checks.told("look 0 0 1;").without(0));
        LaneEyes alone = Checks.told("pool 2 1;needs 9;swimmer 0 0 0;look 0 0 1;look 1 0 1;");
        says.due("one alone is without end", 9, alone.without(1));
    }

    private void risk(String text, int upper, int lower) {
        LaneEyes eyes = Checks.told(text);
        says.due("risk(0) of " + text, upper, eyes.risk(0));
        says.due("risk(1) of " + text, lower, eyes.risk(1));
    }

    private void risks() {
        says.term(4, "RISK: trouble being of a SWIMMER by what 'trouble' gives of each, as in a WEEK, from each second of a ROUND on"
            + " as likely: how likely DELAY is above LAST, or never, as a fraction in lowest terms");
        String three = WEEK + "swimmer 0 0 9;swimmer 1 0 7;swimmer 2 0 0;";
        // of 14 by 6 seconds: swimmer 1 (3) in some, swimmer 2 (10) in all
        risk(three + "last 1;", 19, 21);
        risk(three + "last 4;", 11, 14);
        risk(three + "last 5;", 3, 4);
        risk(three + "last 6;", 5, 7);
        risk(three + "last 300;", 5, 7);
        risk(three + "last 6;trouble 99;", 1, 3);
        risk(three + "last 6;trouble 100+skill*200;", 1, 3);
        risk(three + "last 6;trouble 8-skill;", 8, 9);
        risk(three + "last 1;trouble skill-8;", 1, 6);
        risk(three + "last 2;trouble skill-8;", 0, 1);
        risk(WEEK + "swimmer 2 0 9;", 1, 1);
        risk("pool 2 1;needs 1;last 1;trouble 99;" + "swimmer 0 0 0;".repeat(12) + "look 1 0 9;".repeat(11) + "look 0 0 9;", 11, 12);

        says.term(4, "(0 by 1, if nobody can be in trouble; 1 by 1 without LOOKS, if somebody can)");
        risk(WEEK, 0, 1);
        risk(WEEK + "swimmer 2 0 0;trouble 0;", 0, 1);
        risk(WEEK + "swimmer 2 0 0;trouble 0-9;", 0, 1);
        risk("last 1;", 0, 1);
        risk("swimmer 2 0 0;trouble 0;", 0, 1);
        risk("swimmer 2 0 0;", 1, 1);
        risk("swimmer 2 0 9;last 300;", 1, 1);
        risk("swimmer 2 0 9;swimmer 2 0 0;trouble skill;", 1, 1);
    }

    private void status(LaneEyes eyes, int texts, int acts, int told) {
        says.due("STATUS 0", texts, eyes.count(15));
        says.due("STATUS 1", acts, eyes.count(16));
        says.due("STATUS 2", told, eyes.count(17));
    }

    private void status() {
        says.term(4, "STATUS: how many calls were refused: 0 of TEXTS with a FAULT, 1 of ACTS, 2 of DUMMIES, HEADS.");
        LaneEyes eyes = Checks.told("pool 3 2;swimmer 0 0 1;look 0 0 1;look 1 0 1;");
        status(eyes, 0, 0, 0);
        Checks.tell(eyes, "whale");
        status(eyes, 1, 0, 0);
        eyes.swim(0, 6);
        status(eyes, 1, 1, 0);
        eyes.chair(6);
        status(eyes, 1, 2, 0);
        eyes.lasts(0, 10);
        status(eyes, 1, 3, 0);
        eyes.change(0, 0);
        status(eyes, 1, 4, 0);
        eyes.minutes(1000);
        status(eyes, 1, 5, 0);
        eyes.dummy(1000);
        status(eyes, 1, 5, 1);
        eyes.heads(2, 0);
        status(eyes, 1, 5, 2);
        // what is not refused, or throws, or is no call of these counts nowhere
        eyes.undo();
        eyes.restore();
        eyes.swim(0, 5);
        eyes.dummy(0);
        eyes.heads(0, 0);
        says.dueThrow("swim", Checks.NO_SUCH, () -> eyes.swim(9, 0));
        says.dueThrow("lasts", Checks.NO_SUCH, () -> eyes.lasts(9, 1));
        says.dueThrow("lanes", Checks.ILLEGAL, () -> eyes.lanes(1));
        says.dueThrow("more", Checks.ILLEGAL, () -> eyes.more(0));
        says.dueThrow("jump", Checks.ILLEGAL, () -> eyes.jump(0, 0));
        for (int i = 0; i < 36; i++) {
            eyes.feed(0, 0, 0, 0, 0);
        }
        status(eyes, 1, 5, 2);
        eyes.image();
        eyes.chair(-1);
        eyes.restore();
        status(eyes, 1, 6, 2);
        eyes.forget();
        status(eyes, 1, 6, 2);
        says.due("a text of zeros", 1, eyes.lanes(700));
        status(eyes, 2, 6, 2);
        eyes.lanes(0);
        status(eyes, 2, 6, 2);

        says.term(4, "`NONE = -1`: There is none; never.");
        says.due("NONE", -1, LaneEyes.NONE);
    }

    // ---- promises 26 to 31

    private void gameCalls() {
        says.promise(26, "RULES OF GAMES: FALSE (what 0), MISSED (1).");
        LaneEyes eyes = Checks.told("case 0 0 0 0 fun;case 0 0 0 0 fun;case 0 0 0 0 trouble;game 0;game 1;game 0;game 1;");
        says.due("FALSE of the last", 0, eyes.game(3, 0));
        says.due("MISSED of the last", 1, eyes.game(3, 1));
        says.due("FALSE of the first", 2, eyes.game(0, 0));

        says.promise(26, "NoSuchElementException: no such GAME, another what.");
        for (int game : new int[] {-1, 4, Integer.MIN_VALUE, Integer.MAX_VALUE}) {
            says.dueThrow("GAME " + game, Checks.NO_SUCH, () -> eyes.game(game, 0));
            says.dueThrow("GAME " + game, Checks.NO_SUCH, () -> eyes.game(game, 1));
        }
        noSuch("game(0, ", 2, what -> eyes.game(0, what));
        LaneEyes none = Checks.told("case 0 0 0 0 fun;");
        says.dueThrow("without GAMES", Checks.NO_SUCH, () -> none.game(0, 0));

        says.promise(27, "THE BEST GAME; NONE: there are none.");
        says.due("the first of like ones", 0, Checks.told("case 0 0 0 0 fun;game 1;game 1;").fun());
        says.due("there are none", -1, none.fun());
        says.due("a new object", -1, new LaneEyes().fun());

        says.promise(28, "TO JUMP. IllegalArgumentException: not 1 to 999.");
        for (int wrong : new int[] {0, 1000, -1, Integer.MIN_VALUE, Integer.MAX_VALUE}) {
            says.dueThrow("jump(" + wrong + ", 1)", Checks.ILLEGAL, () -> eyes.jump(wrong, 1));
            says.dueThrow("jump(999, " + wrong + ")", Checks.ILLEGAL, () -> eyes.jump(999, wrong));
            says.dueThrow("jump(" + wrong + ", " + wrong + ")", Checks.ILLEGAL, () -> eyes.jump(wrong, wrong));
        }
        says.due("1, 999", 1, eyes.jump(1, 999));
        says.due("999, 1", 10, eyes.jump(999, 1));
    }

    private interface Asked {
        long answer(int what);
    }

    /** The call with a what below 0, the first too large one, and those far out. */
    private void noSuch(String call, int tooLarge, Asked asked) {
        says.dueThrow(call + tooLarge + ")", Checks.NO_SUCH, () -> asked.answer(tooLarge));
        for (int what : NO_WHATS) {
            says.dueThrow(call + what + ")", Checks.NO_SUCH, () -> asked.answer(what));
        }
    }

    private void dummyCalls() {
        says.promise(29, "DUMMIES: how many there are.");
        LaneEyes eyes = new LaneEyes();
        for (int i = 1; i <= 12; i++) {
            says.due("dummy " + i, i, eyes.dummy(i == 1 ? 0 : 999));
        }

        says.promise(29, "NONE (STATUS 2): there are 12, not 0 to 999.");
        says.due("there are 12", -1, eyes.dummy(0));
        says.due("there are 12", -1, eyes.dummy(-1));
        says.due("there are still 12", 12, eyes.count(12));
        says.due("STATUS 2", 2, eyes.count(17));
        LaneEyes few = measured("last 1;", 5);
        int[] wrong = {-1, 1000, Integer.MIN_VALUE, Integer.MAX_VALUE};
        for (int i = 0; i < wrong.length; i++) {
            says.due("dummy(" + wrong[i] + ")", -1, few.dummy(wrong[i]));
            says.due("STATUS 2", i + 1, few.count(17));
            told(few, 5, 1, 5, 1);
        }
        says.due("the next", 2, few.dummy(999));

        says.promise(30, "the mean: the upper part (what 0; 0 without), the lower one (1; 1 without), the greatest (2; NONE),"
            + " how many are above LAST (3).");
        told(new LaneEyes(), 0, 1, -1, 0);
        told(measured("last 5;", 5, 6, 0, 3), 7, 2, 6, 1);

        says.promise(30, "NoSuchElementException: another what.");
        noSuch("dummies(", 4, what -> few.dummies(what));

        says.promise(31, "MORE. IllegalArgumentException: not 1 to 999.");
        says.due("mean 999", 0, few.more(999));
        says.due("mean 1", 5 + 999 - 2, few.more(1));
        for (int mean : new int[] {0, 1000, -1, Integer.MIN_VALUE, Integer.MAX_VALUE}) {
            says.dueThrow("more(" + mean + ")", Checks.ILLEGAL, () -> few.more(mean));
            says.dueThrow("without DUMMIES, more(" + mean + ")", Checks.ILLEGAL, () -> new LaneEyes().more(mean));
        }
    }

    // ---- promises 32 to 34

    private void headCalls() {
        says.promise(32, "HEADS: how many are told.");
        LaneEyes eyes = Checks.told("pool 2 3;swimmer 0 0 0;");
        for (int i = 1; i <= 8; i++) {
            says.due("heads " + i, i, eyes.heads(0, 1));
        }

        says.promise(32, "NONE (STATUS 2): there are 8, no such row, not 0 to 12.");
        says.due("there are 8", -1, eyes.heads(0, 0));
        says.due("there are 8, no such row", -1, eyes.heads(3, 0));
        says.due("there are still 8", 8, eyes.count(13));
        says.due("STATUS 2", 2, eyes.count(17));
        absent(eyes, 1, 0, 0);
        LaneEyes few = Checks.told("pool 2 3;swimmer 0 0 0;");
        int[][] wrong = {{-1, 0}, {3, 0}, {4, 0}, {5, 0}, {0, -1}, {0, 13}, {2, 13}, {Integer.MIN_VALUE, 0}, {Integer.MAX_VALUE, 0},
            {0, Integer.MIN_VALUE}, {0, Integer.MAX_VALUE}};
        for (int i = 0; i < wrong.length; i++) {
            says.due("heads(" + wrong[i][0] + ", " + wrong[i][1] + ")", -1, few.heads(wrong[i][0], wrong[i][1]));
            says.due("STATUS 2", i + 1, few.count(17));
            says.due("HEADS", 0, few.count(13));
            absent(few, 2, 0, 0);
        }
        says.due("the last row, 12", 1, few.heads(2, 12));
        says.due("the first row, 0", 2, few.heads(0, 0));
        for (int h = 1; h <= 5; h++) {
            LaneEyes high = Checks.told("pool 1 " + h + ";");
            says.due("H " + h + ", the last row", 1, high.heads(h - 1, 0));
            says.due("H " + h + ", one more", -1, high.heads(h, 0));
        }
    }

    private void forget() {
        says.promise(33, "DUMMIES and HEADS are forgotten.");
        LaneEyes eyes = Checks.told("pool 1 2;swimmer 0 0 0;");
        eyes.forget();
        says.due("nothing to forget", 0, eyes.count(12) + eyes.count(13));
        for (int i = 0; i < 12; i++) {
            eyes.dummy(900);
        }
        for (int i = 0; i < 8; i++) {
            eyes.heads(0, 0);
        }
        eyes.minutes(5);
        eyes.forget();
        says.due("DUMMIES", 0, eyes.count(12));
        says.due("HEADS", 0, eyes.count(13));
        told(eyes, 0, 1, -1, 0);
        absent(eyes, 2, 0, 0);
        says.due("ACTS stay", 1, eyes.count(11));
        says.due("MINUTES stay", 5, eyes.count(7));
        says.due("a new DUMMY", 1, eyes.dummy(3));
        says.due("new HEADS", 1, eyes.heads(1, 0));
        told(eyes, 3, 1, 3, 0);
        absent(eyes, 2, 0, 0);
        says.due("undo() brings none back", 0, eyes.undo());
        says.due("DUMMIES", 1, eyes.count(12));
    }

    private void missingCalls() {
        says.promise(34, "how many sets (what 0), the fewest as bits (1; NONE: none), those in all (2; 0 without).");
        LaneEyes eyes = Checks.told("pool 1 2;swimmer 0 0 0;swimmer 0 1 0;");
        absent(eyes, 4, 0, 0);
        eyes.heads(1, 0);
        absent(eyes, 2, 2, 2);
        eyes.swim(1, 0);
        absent(eyes, 4, 0, 0);
        eyes.undo();
        eyes.heads(0, 2);
        absent(eyes, 0, -1, 0);

        says.promise(34, "NoSuchElementException: another what.");
        noSuch("missing(", 3, what -> eyes.missing(what));
    }

    // ---- promises 35 to 38

    private void weekCalls() {
        LaneEyes eyes = Checks.told(WEEK + "swimmer 1 0 0;last 4;");
        says.promise(35, "A WEEK: DELAYS (what 0), how many above LAST (1), the greatest (2; of never, or above LAST, LAST).");
        // seed 1: second 5758 MOD 6 is 4, then 17515 MOD 6 is 1; seed 0: 21468 MOD 6 is 0, then 22117 MOD 6 is 1
        says.due("4 and 1", 5, eyes.week(1, 2, 0));
        says.due("none above LAST", 0, eyes.week(1, 2, 1));
        says.due("the greatest", 4, eyes.week(1, 2, 2));
        says.due("2 and 1", 3, eyes.week(0, 2, 0));
        says.due("the greatest", 2, eyes.week(0, 2, 2));
        LaneEyes soon = Checks.told(WEEK + "swimmer 1 0 0;last 3;");
        says.due("3 for 4, and 1", 4, soon.week(1, 2, 0));
        says.due("one above LAST", 1, soon.week(1, 2, 1));
        says.due("LAST", 3, soon.week(1, 2, 2));
        LaneEyes never = Checks.told(WEEK + "swimmer 2 0 0;last 3;");
        says.due("never", 300, never.week(1, 100, 0));
        says.due("never", 100, never.week(1, 100, 1));
        says.due("never", 3, never.week(1, 100, 2));
        says.due("no time", 0, never.week(1, 0, 0) + never.week(1, 0, 1) + never.week(1, 0, 2));

        says.promise(35, "NoSuchElementException: another what. IllegalArgumentException (behind that): n.");
        for (int n : new int[] {-1, 101, Integer.MIN_VALUE, Integer.MAX_VALUE}) {
            for (int what = 0; what <= 2; what++) {
                int asked = what;
                says.dueThrow("n " + n, Checks.ILLEGAL, () -> eyes.week(1, n, asked));
                says.dueThrow("n " + n + " of a new object", Checks.ILLEGAL, () -> new LaneEyes().week(1, n, asked));
            }
            noSuch("n " + n + " and week(1, n, ", 3, what -> eyes.week(1, n, what));
        }
        noSuch("week(1, 0, ", 3, what -> eyes.week(1, 0, what));
        noSuch("week(1, 100, ", 3, what -> eyes.week(1, 100, what));
        says.due("asked again, the same", 5, eyes.week(1, 2, 0));
    }

    private void blindCalls() {
        says.promise(36, "BLIND, as bits.");
        long all = (1L << 40) - 1;
        says.due("all", all, new LaneEyes().blind());
        for (int cell : new int[] {0, 1, 30, 31, 32, 33, 38, 39}) {
            LaneEyes but = Checks.told("needs 1;look " + cell % 8 + " " + cell / 8 + " 1;");
            says.due("all but CELL " + cell, all - (1L << cell), but.blind());
        }
        says.due("all of 8", 255, Checks.told("pool 8 1;").blind());
        says.due("the last of 8", 128, Checks.told("pool 8 1;needs 1;look 0 0 1;look 1 0 1;look 2 0 1;look 3 0 1;look 4 0 1;"
            + "look 5 0 1;look 6 0 1;").blind());

        says.promise(37, "WITHOUT a LOOK; NONE: never.");
        LaneEyes eyes = Checks.told("pool 2 1;needs 1;swimmer 0 0 0;look 0 0 1;look 1 0 1;");
        says.due("never", -1, eyes.without(0));
        says.due("at once", 1, eyes.without(1));
        for (int look : new int[] {-1, 2, 12, Integer.MIN_VALUE, Integer.MAX_VALUE}) {
            says.dueThrow("without(" + look + ")", Checks.NO_SUCH, () -> eyes.without(look));
        }
        says.dueThrow("without LOOKS", Checks.NO_SUCH, () -> new LaneEyes().without(0));
    }

    private void riskCalls() {
        says.promise(38, "RISK: the upper part (what 0), the lower one (1).");
        risk(WEEK + "swimmer 1 0 0;last 4;", 1, 3);
        risk(WEEK + "swimmer 1 0 0;last 6;", 0, 1);
        risk(WEEK + "swimmer 2 0 0;last 6;", 1, 1);

        says.promise(38, "NoSuchElementException: another what.");
        LaneEyes eyes = Checks.told(WEEK + "swimmer 1 0 0;last 4;");
        noSuch("risk(", 2, what -> eyes.risk(what));
        noSuch("nobody in, risk(", 2, what -> new LaneEyes().risk(what));
    }

    // ---- promises 39 and 40

    private static final String POOL = "pool 3 2;swimmer 0 0 1;swimmer 2 1 2;look 0 0 1;look 1 0 2;look 2 1 3;chair 1 1;";

    private void stateIs(String when, LaneEyes eyes, int... want) {
        int[] got = {eyes.swimmer(0, 0), eyes.swimmer(1, 0), eyes.count(4), eyes.look(0, 0), eyes.look(0, 1), eyes.look(2, 0),
            eyes.look(2, 1), eyes.count(7), eyes.count(11), eyes.count(12), eyes.dummies(2), eyes.count(13), eyes.missing(2)};
        says.due(when + ": numbers", want.length, got.length);
        for (int i = 0; i < want.length; i++) {
            says.due(when + ": number " + i, want[i], got[i]);
        }
    }

    private static void disturb(LaneEyes eyes) {
        eyes.swim(0, 3);
        eyes.swim(1, 3);
        eyes.chair(2);
        eyes.lasts(0, 9);
        eyes.lasts(2, 9);
        eyes.change(0, 2);
        eyes.minutes(111);
        eyes.forget();
        eyes.dummy(7);
        eyes.dummy(7);
        eyes.heads(1, 0);
        eyes.heads(1, 0);
        eyes.heads(1, 0);
    }

    private void images() {
        says.promise(39, "CELLS of SWIMMERS, THE CHAIR, LOOKS, MINUTES, ACTS, DUMMIES and HEADS are kept as an image,"
            + " in place of another one.");
        LaneEyes eyes = Checks.told(POOL);
        eyes.image();
        disturb(eyes);
        stateIs("disturbed", eyes, 3, 3, 2, 5, 9, 0, 9, 111, 7, 2, 7, 3, 3);
        says.due("restore()", true, eyes.restore());
        stateIs("as at first", eyes, 0, 5, 4, 0, 1, 5, 3, 0, 0, 0, -1, 0, 0);
        eyes.swim(0, 1);
        eyes.minutes(9);
        eyes.dummy(99);
        eyes.heads(0, 1);
        eyes.heads(1, 0);
        eyes.image();
        disturb(eyes);
        says.due("restore()", true, eyes.restore());
        stateIs("as at the other image", eyes, 1, 5, 4, 0, 1, 5, 3, 9, 2, 1, 99, 2, 2);
        says.due("its ACTS are undone", 1, eyes.undo());
        says.due("MINUTES", 0, eyes.count(7));
        says.due("its ACTS are undone", 0, eyes.undo());
        says.due("the SWIMMER", 0, eyes.swimmer(0, 0));
        LaneEyes full = Checks.told(POOL);
        for (int i = 1; i <= 45; i++) {
            full.minutes(i);
        }
        full.image();
        for (int i = 1; i <= 50; i++) {
            full.chair(i % 6);
        }
        full.restore();
        says.due("40 ACTS", 40, full.count(11));
        for (int i = 0; i < 40; i++) {
            full.undo();
        }
        says.due("the latest 40 of the image", 5, full.count(7));
        says.due("THE CHAIR", 4, full.count(4));
    }

    private void restores() {
        says.promise(40, "They are as the image again: true.");
        LaneEyes eyes = Checks.told(POOL);
        eyes.image();
        for (int i = 0; i < 3; i++) {
            disturb(eyes);
            eyes.swim(0, 99);
            eyes.dummy(-1);
            Checks.tell(eyes, "whale");
            eyes.lengths();
            says.due("again and again", true, eyes.restore());
            stateIs("restored", eyes, 0, 5, 4, 0, 1, 5, 3, 0, 0, 0, -1, 0, 0);
            status(eyes, i + 1, i + 1, i + 1);
            says.due("the FAULT's place stays", 0, eyes.fault());
            // cells 3 3 hold both swimmers, so every length is as good: never
            says.due("the row stays", 1, eyes.row(2));
            says.dueThrow("its end too", Checks.NO_SUCH, () -> eyes.row(3));
        }
        eyes.feed(0, 0, 0, 0, 0);
        eyes.restore();
        says.due("the tape stays", 20, eyes.count(14));

        says.promise(40, "False: there is none.");
        LaneEyes none = Checks.told(POOL);
        disturb(none);
        says.due("no image", false, none.restore());
        stateIs("nothing changes", none, 3, 3, 2, 5, 9, 0, 9, 111, 7, 2, 7, 3, 3);
        says.due("a new object", false, new LaneEyes().restore());
        none.image();
        says.due("a text", 0, Checks.tell(none, POOL));
        says.due("the image is gone with a text", false, none.restore());
        none.image();
        says.due("a FAULT", 1, Checks.tell(none, "whale"));
        says.due("the image stays with a FAULT", true, none.restore());
        LaneEyes fresh = new LaneEyes();
        fresh.image();
        fresh.chair(7);
        says.due("an image of a new object", true, fresh.restore());
        says.due("THE CHAIR", 0, fresh.count(4));
    }
}
