import java.nio.charset.StandardCharsets;
import java.util.Arrays;

/** Boundary cases of Terms 1 and of promises 1 to 4: sizes, tokens, rules, faults, the tape. */
final class EdgesOfText {
    /** A line of each kind, its tokens parted by a blank. */
    private static final String[] LINES = {"deep 0 0 1 ;", "glare 0 0 1 ;", "swimmer 0 0 1 ;", "chair 0 0 ;",
        "look 0 0 1 ;", "last 1 ;", "tire 1 ;", "case 0 0 0 0 trouble ;", "case 0 0 0 0 fun ;", "needs 1 ;",
        "trouble 1 ;", "game 1 ;", "needs not 1 ;", "needs ( 1 ) ;", "needs 1 + 1 ;", "needs 1 - 1 ;", "needs 1 * 1 ;",
        "needs 1 / 1 ;", "needs 1 < 1 ;", "needs 1 = 1 ;", "needs 1 and 1 ;", "needs 1 or 1 ;", "pool 8 5 ;"};

    private final Sentences says;

    EdgesOfText(Sentences says) {
        this.says = says;
    }

    void all() {
        pools();
        cellNumbers();
        depthsAndGlares();
        swimmersAndChair();
        looks();
        lastAndTire();
        gamesAndCases();
        longTexts();
        tokens();
        lines();
        expressions();
        arithmetic();
        values();
        placesOfFaults();
        tokensThatCannotStand();
        tooMuch();
        tooDeep();
        noValues();
        toldTwice();
        newObject();
        feeds();
        wrongLanes();
        lanesAnew();
        latestFault();
    }

    /** A NUMBER between two pieces of text: its bounds are told, what is beside them is fault 2 at its place. */
    private void bounds(String before, int least, int most, String behind) {
        says.noFault(before + least + behind);
        says.noFault(before + most + behind);
        if (least > 0) {
            says.fault(before + (least - 1) + behind, 2, before.length());
        }
        says.fault(before + (most + 1) + behind, 2, before.length());
        says.fault(before + 9999 + behind, 2, before.length());
    }

    // ---- Terms 1: what there may be

    private void pools() {
        says.term(1, "THE POOL is W by H CELLS (1 to 8, 1 to 5; 8 by 5 without)");
        for (int w = 1; w <= 8; w++) {
            for (int h = 1; h <= 5; h++) {
                LaneEyes eyes = Checks.told("pool " + w + " " + h + ";");
                int cells = w * h;
                says.due("W", w, eyes.count(0));
                says.due("H", h, eyes.count(1));
                says.due("the last CELL", 3, eyes.cell(cells - 1, 0));
                says.dueThrow("one more", Checks.NO_SUCH, () -> eyes.cell(cells, 0));
            }
        }
        bounds("pool ", 1, 8, " 5;");
        bounds("pool 8 ", 1, 5, ";");
        LaneEyes without = Checks.told("last 9;");
        says.due("W without", 8, without.count(0));
        says.due("H without", 5, without.count(1));
    }

    private void cellNumbers() {
        says.term(1, "x from the left (0), y from far (0); a CELL's number is W by y and x");
        for (int w = 1; w <= 8; w++) {
            for (int h = 1; h <= 5; h++) {
                corner(w, h, 0, 0);
                corner(w, h, w - 1, 0);
                corner(w, h, 0, h - 1);
                corner(w, h, w - 1, h - 1);
            }
        }
    }

    private void corner(int w, int h, int x, int y) {
        String spot = " " + x + " " + y;
        LaneEyes eyes = Checks.told("pool " + w + " " + h + ";deep" + spot + " 9;glare" + spot + " 8;swimmer" + spot
            + " 7;chair" + spot + ";look" + spot + " 6;");
        int cell = w * y + x;
        for (int other = 0; other < w * h; other++) {
            says.due("DEPTH of " + other, other == cell ? 9 : 3, eyes.cell(other, 0));
            says.due("GLARE of " + other, other == cell ? 8 : 0, eyes.cell(other, 1));
        }
        says.due("SWIMMER", cell, eyes.swimmer(0, 0));
        says.due("CHAIR", cell, eyes.count(4));
        says.due("LOOK", cell, eyes.look(0, 0));
    }

    private void depthsAndGlares() {
        says.term(1, "Each has a DEPTH (1 to 9; 3 without) and GLARE (0 to 9; 0 without).");
        bounds("deep 0 0 ", 1, 9, ";");
        bounds("glare 0 0 ", 0, 9, ";");
        LaneEyes eyes = Checks.told("deep 0 0 1;deep 1 0 9;glare 0 0 9;glare 1 0 0;");
        says.due("DEPTH 1", 1, eyes.cell(0, 0));
        says.due("DEPTH 9", 9, eyes.cell(1, 0));
        says.due("DEPTH without", 3, eyes.cell(2, 0));
        says.due("GLARE 9", 9, eyes.cell(0, 1));
        says.due("GLARE 0", 0, eyes.cell(1, 1));
        says.due("GLARE without", 0, eyes.cell(2, 1));
    }

    private void swimmersAndChair() {
        says.term(1, "SWIMMERS 0, 1 .. (at most 12): a CELL, a SKILL (0 to 9).");
        says.due("no SWIMMER", 0, Checks.told("last 1;").count(2));
        StringBuilder text = new StringBuilder();
        for (int i = 0; i < 12; i++) {
            text.append("swimmer ").append(i % 8).append(" ").append(i % 5).append(" ").append(i % 10).append(";");
        }
        LaneEyes eyes = Checks.told(text.toString());
        says.due("12 SWIMMERS", 12, eyes.count(2));
        for (int i = 0; i < 12; i++) {
            says.due("CELL of " + i, 8 * (i % 5) + i % 8, eyes.swimmer(i, 0));
            says.due("SKILL of " + i, i % 10, eyes.swimmer(i, 1));
        }
        says.fault(text + "swimmer 0 0 0;", 2, text.length());
        bounds("swimmer 0 0 ", 0, 9, ";");

        says.term(1, "THE CHAIR is at a CELL (0 without).");
        says.due("without", 0, Checks.told("pool 3 2;").count(4));
        says.due("the last", 5, Checks.told("pool 3 2;chair 2 1;").count(4));
        says.fault("pool 3 2;chair 3 1;", 2, 15);
        says.fault("pool 3 2;chair 2 2;", 2, 17);
    }

    private void looks() {
        says.term(1, "LOOKS 0, 1 .. (at most 12): a CELL (also the same again), SECONDS (1 to 9)");
        says.due("no LOOK", 0, Checks.told("last 1;").count(3));
        LaneEyes eyes = Checks.told("look 7 4 9;".repeat(12));
        says.due("12 LOOKS", 12, eyes.count(3));
        says.due("a ROUND", 108, eyes.count(10));
        says.due("the same CELL", 1, eyes.count(18));
        says.due("the last one's CELL", 39, eyes.look(11, 0));
        says.due("the last one's SECONDS", 9, eyes.look(11, 1));
        says.fault("look 7 4 9;".repeat(12) + "look 7 4 9;", 2, 132);
        bounds("look 0 0 ", 1, 9, ";");

        says.term(1, "behind the last comes the first again, and so on, without end");
        LaneEyes round = Checks.told("pool 2 1;needs 1;look 0 0 1;look 1 0 9;");
        says.due("from the last second on", 2, round.delay(0, 9));
        LaneEyes endless = Checks.told("pool 2 1;needs 30;look 0 0 1;");
        says.due("30 ROUNDS", 30, endless.delay(0, 0));
    }

    private void lastAndTire() {
        says.term(1, "LAST (1 to 300; 60 without)");
        bounds("last ", 1, 300, ";");
        says.due("1", 1, Checks.told("last 1;").count(5));
        says.due("300", 300, Checks.told("last 300;").count(5));
        says.due("without", 60, Checks.told("tire 5;").count(5));

        says.term(1, "TIRE (1 to 99; 20 without): minutes.");
        bounds("tire ", 1, 99, ";");
        says.due("1", 1, Checks.told("tire 1;").count(6));
        says.due("99", 99, Checks.told("tire 99;").count(6));
        says.due("without", 20, Checks.told("last 5;").count(6));
    }

    private void gamesAndCases() {
        says.term(1, "GAMES 0, 1 .. (at most 4): rules.");
        says.due("no GAME", 0, Checks.told("last 1;").count(8));
        LaneEyes games = Checks.told("game 1;game 0;game 1;game 0;case 0 0 0 0 fun;");
        says.due("4 GAMES", 4, games.count(8));
        for (int game = 0; game < 4; game++) {
            says.due("GAME " + game, game % 2, games.game(game, 0));
        }
        says.fault("game 1;game 0;game 1;game 0;game 1;", 2, 28);

        says.term(1, "CASES (at most 10): what was seen (LEGS, MOUTH, WAVES, SCREAMS: 0 to 9 each), and whether it was trouble.");
        says.due("no CASE", 0, Checks.told("last 1;").count(9));
        LaneEyes cases = Checks.told("case 0 0 0 0 fun;".repeat(9) + "case 9 9 9 9 trouble;game legs+mouth+waves+screams=36;");
        says.due("10 CASES", 10, cases.count(9));
        says.due("the last one is trouble", 1, cases.game(0, 1));
        says.due("the others are fun", 9, cases.game(0, 0));
        says.fault("case 0 0 0 0 fun;".repeat(10) + "case 0 0 0 0 fun;", 2, 170);
        bounds("case ", 0, 9, " 0 0 0 fun;");
        bounds("case 0 ", 0, 9, " 0 0 fun;");
        bounds("case 0 0 ", 0, 9, " 0 fun;");
        bounds("case 0 0 0 ", 0, 9, " fun;");
        bounds("case 0 0 0 ", 0, 9, " trouble;");
    }

    // ---- Terms 1: the text

    private void longTexts() {
        says.term(1, "A TEXT of at most 700 bytes tells it.");
        String line = "last 299;";
        says.noFault(" ".repeat(700 - line.length()) + line);
        LaneEyes eyes = Checks.told(line + " ".repeat(700 - line.length()));
        says.due("told", 299, eyes.count(5));
        says.fault("last 299" + " ".repeat(692), 1, 700);
        says.fault(" ".repeat(699) + "x", 1, 699);
        String rule = "game 1" + "+1".repeat(346) + ";";
        LaneEyes full = Checks.told(rule);
        says.due("700 bytes less one of a rule", 699, rule.length());
        says.due("a GAME", 1, full.count(8));
    }

    private void tokens() {
        says.term(1, "words (a .. z, the longest row)");
        says.noFault("needs depth;");
        says.fault("needs depthdepth;", 3, 6);
        says.fault("needs notdepth;", 3, 6);
        says.fault("needs 1 orcrowd;", 1, 8);
        says.fault("needs Depth;", 1, 6);
        says.fault("needs depTh;", 3, 6);
        says.fault("needsdepth;", 1, 0);
        says.noFault("needs depth+1or 2and not crowd;");
        for (String line : LINES) {
            String word = line.substring(0, line.indexOf(' '));
            says.fault(line.replaceFirst("^.", "x"), 1, 0);
            says.fault(line.replaceFirst(" ", "x "), 1, 0);
            says.fault(line.replaceFirst(". ", " "), 1, 0);
            says.fault(line.replaceFirst("^" + word, ""), 1, 1);
        }
        for (String value : new String[] {"xepth", "dexth", "deptx", "xar", "fax", "fxr"}) {
            says.fault("needs " + value + ";", 3, 6);
        }

        says.term(1, "NUMBERS (1 to 4 digits)");
        says.noFault("needs 0;");
        says.noFault("needs 9999;");
        says.noFault("needs 0000;");
        says.noFault("last 0300;");
        says.fault("last 00300;", 2, 5);
        says.fault("last 3 0;", 1, 7);

        says.term(1, "signs ; ( ) + - * / < = ;");
        for (int sign = 0; sign < 256; sign++) {
            oneByteInARule((char) sign);
            oneByteAtTheBeginning((char) sign);
        }

        says.term(1, "blanks (32, 10) between them count for nothing");
        says.noFault("\n\n  last\n \n7\n;\n");
        says.noFault("needs(1+2)*depth<3and 4;");
        says.noFault("needs ( 1 + 2 ) * depth < 3 and 4 ;");
        says.noFault(" \n ");
        for (int other : new int[] {0, 9, 11, 12, 13, 31, 33, 127, 133, 160, 255}) {
            says.fault("last" + (char) other + "7;", 1, 4);
        }
    }

    private void oneByteInARule(char sign) {
        String text = "needs 1" + sign + ";";
        boolean digit = sign >= '0' && sign <= '9';
        if (sign == ' ' || sign == '\n' || digit) {
            says.noFault(text);
        } else {
            // behind ; a LINE must begin, behind the others a PART: the ; at 8 can stand in neither place
            boolean goesOn = ";+-*/<=".indexOf(sign) >= 0;
            says.fault(text, 1, goesOn ? 8 : 7);
        }
    }

    private void oneByteAtTheBeginning(char sign) {
        boolean blank = sign == ' ' || sign == '\n';
        says.fault(sign + "last 1;", blank ? 0 : 1, blank ? -1 : 0);
    }

    private void lines() {
        says.term(1, "LANES: ['pool' W H ';'] LINE*.");
        says.noFault("");
        says.noFault("pool 1 1;");
        says.noFault("last 1;");
        says.noFault("pool 1 1;last 1;");
        says.fault("pool 1 1", 1, 8);
        says.fault("pool 1;", 1, 6);
        says.fault(";", 1, 0);
        says.fault("pool 1 1;;", 1, 9);

        says.term(1, "LINE: (('deep' | 'glare') X Y NUMBER | 'swimmer' X Y SKILL | 'chair' X Y | 'look' X Y SECONDS"
            + " | ('last' | 'tire') NUMBER | 'case' LEGS MOUTH WAVES SCREAMS ('trouble' | 'fun')"
            + " | ('needs' | 'trouble' | 'game') EXPR) ';', all in capitals but EXPR being NUMBERS.");
        for (String line : LINES) {
            says.noFault(line);
            says.noFault(line.replace(" ;", ";"));
        }
        says.fault("deep 0 0 depth;", 1, 9);
        says.fault("deep 0 0 (1);", 1, 9);
        says.fault("last 1+1;", 1, 6);
        says.fault("case 0 0 0 0 fun trouble;", 1, 17);
        says.fault("game 1 fun;", 1, 7);
    }

    /** The rule's value is looked at as what is left of it in NEED: 1 for what isn't above 0, 30 for all above. */
    private int need(String rule) {
        return Checks.told("needs " + rule + ";").cell(0, 4);
    }

    private void gives(String expr, int want) {
        says.due(expr + " is " + want, 2, need("1+(" + expr + "=" + (want < 0 ? "0-" + -(long) want : "" + want) + ")"));
    }

    private void expressions() {
        says.term(1, "EXPR: AND ('or' AND)*. AND: NOT ('and' NOT)*. NOT: 'not' NOT | SUM [('<' | '=') SUM].");
        gives("(0 and 0 or 1)", 1);
        gives("(1 or 1 and 0)", 1);
        gives("(1 or 0 and 0)", 1);
        gives("(0 or 0 or 0 or 1)", 1);
        gives("(1 and 1 and 1 and 0)", 0);
        gives("(not 1 or 1)", 1);
        gives("(not 0 and 0)", 0);
        gives("(not 2=3)", 1);
        gives("(not 2<3)", 0);
        gives("(1+1=2)", 1);
        gives("(1<1+1)", 1);
        says.fault("needs 1<2<3;", 1, 9);
        says.fault("needs 1=2=3;", 1, 9);
        says.fault("needs 1<2=3;", 1, 9);
        says.noFault("needs (1<2)<3;");

        says.term(1, "SUM: PRODUCT (('+' | '-') PRODUCT)*. PRODUCT: PART (('*' | '/') PART)*. PART: NUMBER | VALUE | '(' EXPR ')'.");
        gives("2+3*4", 14);
        gives("2*3+4", 10);
        gives("(2+3)*4", 20);
        gives("9-8/2", 5);
        says.fault("needs -1;", 1, 6);
        says.fault("needs +1;", 1, 6);
        says.fault("needs 1--1;", 1, 8);
        says.fault("needs 1*/1;", 1, 8);
        says.fault("needs ();", 1, 7);
        says.fault("needs 1(2);", 1, 7);
        says.fault("needs (1)(2);", 1, 9);
        says.fault("needs (1)2;", 1, 9);
    }

    private void arithmetic() {
        says.term(1, "From the left; ints that wrap, / cut down to 0, by 0 gives 0;");
        gives("9-5-3", 1);
        gives("9-5+3", 7);
        gives("64/4/2", 8);
        gives("7/2*2", 6);
        gives("7*2/4", 3);
        gives("7/2", 3);
        gives("(0-7)/2", -3);
        gives("7/(0-2)", -3);
        gives("(0-7)/(0-2)", 3);
        gives("1/2", 0);
        gives("(0-1)/2", 0);
        gives("0/5", 0);
        gives("5/0", 0);
        gives("0/0", 0);
        gives("(0-5)/0", 0);
        gives("5/(3-3)+4", 4);
        gives("9/0/0", 0);
        // 8192 by 8192 by 32 is 2 to the 31st, which wraps to the least int
        gives("(8192*8192*32<0)", 1);
        gives("(8192*8192*32-1<0)", 0);
        gives("(8192*8192*32-1+1<0)", 1);
        gives("8192*8192*64", 0);
        gives("8192*8192*32+8192*8192*32", 0);
        gives("(0-8192*8192*32<0)", 1);
        gives("8192*8192*32/(0-1)-8192*8192*32", 0);
        gives("8192*8192*32/8192/8192", -32);

        says.term(1, "tests, not, and, or are 1 or 0 (what isn't 0 holds)");
        gives("(3<4)", 1);
        gives("(4<4)", 0);
        gives("(5<4)", 0);
        gives("(4=4)", 1);
        gives("(4=5)", 0);
        gives("(not 0)", 1);
        gives("(not 1)", 0);
        gives("(not 7)", 0);
        gives("(not (0-7))", 0);
        gives("(not not 7)", 1);
        gives("(not not not not not not 7)", 1);
        gives("(7 and (0-7))", 1);
        gives("(7 and 0)", 0);
        gives("(0 and 7)", 0);
        gives("(7 or 0)", 1);
        gives("(0 or (0-7))", 1);
        gives("(7 or 7)", 1);
        gives("(0 or 0)", 0);
        // 2 to the 31st isn't 0, twice of it is
        gives("(not 8192*8192*32)", 0);
        gives("(not 8192*8192*64)", 1);
    }

    private void values() {
        String pool = "pool 4 3;chair 3 2;deep 1 0 9;glare 1 0 8;" + "swimmer 1 0 7;swimmer 1 0 6;swimmer 0 0 5;";
        says.term(1, "VALUES of NEEDS: of a CELL 'depth', 'glare', 'far' (from THE CHAIR, along x and y together),"
            + " 'crowd' (SWIMMERS in it), 'tired'.");
        String[] needs = {"depth", "glare", "far", "crowd", "tired"};
        int[] ofOne = {9, 8, 4, 2, 0};
        int[] ofEmpty = {3, 0, 3, 0, 0};
        for (int i = 0; i < needs.length; i++) {
            LaneEyes eyes = Checks.told(pool + "needs 10+" + needs[i] + ";");
            says.due(needs[i] + " of CELL 1", 10 + ofOne[i], eyes.cell(1, 4));
            says.due(needs[i] + " of CELL 2", 10 + ofEmpty[i], eyes.cell(2, 4));
            eyes.minutes(20);
            says.due(needs[i] + " later", 10 + (i == 4 ? 1 : ofOne[i]), eyes.cell(1, 4));
            eyes.chair(1);
            says.due(needs[i] + " from there", 10 + (i == 4 ? 1 : i == 2 ? 0 : ofOne[i]), eyes.cell(1, 4));
        }

        says.term(1, "Of TROUBLE: of a SWIMMER 'skill', of his CELL 'depth', 'glare', 'crowd', 'far'.");
        String[] trouble = {"skill", "depth", "glare", "crowd", "far"};
        int[][] of = {{7, 9, 8, 2, 4}, {6, 9, 8, 2, 4}, {5, 3, 0, 1, 5}};
        for (int i = 0; i < trouble.length; i++) {
            LaneEyes eyes = Checks.told(pool + "trouble " + trouble[i] + ";");
            for (int swimmer = 0; swimmer < 3; swimmer++) {
                says.due(trouble[i] + " of SWIMMER " + swimmer, of[swimmer][i], eyes.swimmer(swimmer, 2));
            }
            eyes.swim(1, 0);
            says.due(trouble[i] + " behind him", i == 0 ? 7 : i == 3 ? 1 : of[0][i], eyes.swimmer(0, 2));
            says.due(trouble[i] + " where he goes", i == 0 ? 6 : i == 3 ? 2 : of[2][i], eyes.swimmer(1, 2));
        }

        says.term(1, "Of a GAME: 'legs', 'mouth', 'waves', 'screams'.");
        String[] game = {"legs", "mouth", "waves", "screams"};
        for (int i = 0; i < game.length; i++) {
            LaneEyes eyes = Checks.told("case 6 7 8 9 fun;game " + game[i] + "=" + (6 + i) + ";game " + game[i] + "=" + (7 + i) + ";");
            says.due(game[i], 0, eyes.game(0, 0));
            says.due(game[i] + " is no other", 1, eyes.game(1, 0));
        }
    }

    // ---- Terms 1: faults

    private void placesOfFaults() {
        says.term(1, "FAULTS, the first along the text, at a TOKEN's first byte");
        says.fault("last 0;tire 0;", 2, 5);
        says.fault("tire 0;last", 2, 5);
        says.fault("needs whale;last 0;", 3, 6);
        says.fault("last 1;last 1;needs whale;", 5, 7);
        says.fault("deep 8 9 0", 2, 5);
        says.fault("last   \n  999;", 2, 10);
        says.fault("last 1;  whale;", 1, 9);

        says.term(1, "of one TOKEN the least");
        says.fault("deep 0 0 1;deep 0 00000 1;", 2, 18);
        says.fault("needs ((((((whale", 2, 12);
        says.fault("needs 1 12345;", 1, 8);
        says.fault("12345;", 1, 0);
        says.fault("case 0 0 0 0 12345;", 1, 13);
        says.fault("last 1 12345;", 1, 7);
        says.fault("needs 1 skill;", 1, 8);
        says.fault("needs 1 not not not not not not not 1;", 1, 8);
    }

    private void tokensThatCannotStand() {
        says.term(1, "1 a TOKEN that can't stand there, or is none");
        for (String line : LINES) {
            String before = "";
            for (String token : line.split(" ")) {
                if (!line.contains("(")) {
                    says.fault(before + ") " + line, 1, before.length());
                }
                says.fault(before + "# " + line, 1, before.length());
                says.fault(before + (char) 200 + line, 1, before.length());
                before += token + " ";
            }
        }
        says.fault("last 1;[", 1, 7);
        says.fault("last 1;LAST 1;", 1, 7);

        says.term(1, "the text's length where it ends too soon");
        for (String line : LINES) {
            String text = "";
            for (String token : line.replace(" ;", "").split(" ")) {
                text += token;
                says.fault(text, 1, text.length());
                text += "  \n";
                says.fault(text, 1, text.length());
            }
        }
        says.fault("needs 1+", 1, 8);
        says.fault("needs (", 1, 7);
        says.fault("needs not", 1, 9);
        says.fault("needs ((((((", 1, 12);
        says.fault("needs not not not not not not", 1, 29);

        says.term(1, "'pool' but at the beginning");
        says.fault("pool 8 5;pool 8 5;", 1, 9);
        says.fault("last 1;pool 8 5;", 1, 7);
        says.fault("pool pool", 1, 5);
        says.noFault(" \n pool 8 5;");
    }

    private void tooMuch() {
        says.term(1, "2 one that can, but is too much: a NUMBER of 5 digits or more");
        for (String number : new String[] {"00000", "00001", "10000", "99999", "0000000001", "4294967297", "1".repeat(600)}) {
            says.fault("last " + number + ";", 2, 5);
            says.fault("deep " + number + " 0 1;", 2, 5);
            says.fault("deep 0 " + number + " 1;", 2, 7);
            says.fault("deep 0 0 " + number + ";", 2, 9);
            says.fault("case 0 0 0 " + number + " fun;", 2, 11);
            says.fault("pool " + number + " 1;", 2, 5);
            says.fault("needs " + number + ";", 2, 6);
            says.fault("needs 1+(" + number, 2, 9);
        }

        says.term(1, "or (not in an EXPR) not as told (an X, a Y that there isn't)");
        for (String line : new String[] {"deep", "glare", "swimmer", "chair", "look"}) {
            String behind = line.equals("chair") ? ";" : " 1;";
            String head = "pool 3 2;" + line + " ";
            bounds(head, 0, 2, " 1" + behind);
            bounds(head + "2 ", 0, 1, behind);
            bounds(line + " ", 0, 7, " 4" + behind);
            bounds(line + " 7 ", 0, 4, behind);
        }
        says.noFault("needs 301;");
        says.noFault("trouble 9999;");
        says.noFault("game 10;");

        says.term(1, "the first TOKEN of the 13th SWIMMER, the 13th LOOK, the 11th CASE, the 5th GAME");
        oneTooMany("swimmer 0 0 0;", 12, "swimmer");
        oneTooMany("look 0 0 1;", 12, "look");
        oneTooMany("case 0 0 0 0 fun;", 10, "case");
        oneTooMany("case 0 0 0 0 trouble;", 10, "case");
        oneTooMany("game 1;", 4, "game");
    }

    /** The word alone is the fault, whatever comes behind it, wherever the others stand. */
    private void oneTooMany(String line, int most, String word) {
        String all = line.repeat(most);
        says.noFault(all);
        says.noFault(all + "last 1;");
        says.fault(all + line, 2, all.length());
        says.fault(all + word, 2, all.length());
        says.fault(all + "last 1; " + word + " whale", 2, all.length() + 8);
    }

    private void tooDeep() {
        says.term(1, "of an EXPR within 6 others (a NUMBER, any word, a parenthesis)");
        says.noFault("needs (((((1)))));");
        says.noFault("needs (((((1)))))+(((((1)))));");
        says.noFault("needs ((((1))))*(1*(1*(1*(1*(1+1)))));");
        // as many signs wait for their right side as can: 'or', 'and', <, + and * of each of six EXPRs
        for (int inmost = 0; inmost <= 1; inmost++) {
            String deepest = "0 or 1 and 1<1+1*(".repeat(5) + inmost + ")".repeat(5);
            says.due(deepest, 1 - inmost, Checks.told("case 0 0 0 0 fun;game " + deepest + ";").game(0, 0));
        }
        for (String first : new String[] {"1", "12345", "depth", "skill", "whale", "not", "or", "and", "pool", "needs", "("}) {
            says.fault("needs ((((((" + first, 2, 12);
            says.fault("trouble 1+(((((( " + first, 2, 17);
            says.fault("game not (1 and (1 or (1+(1*(1<(" + first, 2, 32);
        }
        for (String first : new String[] {")", ";", "+", "-", "*", "/", "<", "=", "#", "A", ""}) {
            says.fault("needs ((((((" + first, 1, 12);
        }

        says.term(1, "the seventh 'not' side by side");
        String six = "not ".repeat(6);
        says.noFault("needs " + six + "1;");
        says.fault("needs " + six + "not 1;", 2, 30);
        says.fault("needs " + six + "not", 2, 30);
        says.noFault("needs " + six + "1 and " + six + "1 or " + six + "1;");
        says.noFault("needs " + six + "(" + six + "1);");
        says.fault("needs " + six + "(" + six + "not 1);", 2, 55);
        says.fault("needs 1 or " + six + " \n not", 2, 38);
    }

    private void noValues() {
        says.term(1, "3 any word where a PART must stand that is no VALUE of this EXPR");
        String[] ofNeeds = {"depth", "glare", "far", "crowd", "tired"};
        String[] ofTrouble = {"skill", "depth", "glare", "crowd", "far"};
        String[] ofGame = {"legs", "mouth", "waves", "screams"};
        String[] words = {"depth", "glare", "far", "crowd", "tired", "skill", "legs", "mouth", "waves", "screams", "deep",
            "swimmer", "chair", "look", "last", "tire", "case", "needs", "trouble", "game", "fun", "or", "and", "whale", "a",
            "z", "dept", "depths", "x"};
        for (String word : words) {
            valueOrNot("needs ", word, ofNeeds);
            valueOrNot("trouble ", word, ofTrouble);
            valueOrNot("game ", word, ofGame);
        }
        for (String before : new String[] {"1+", "1-", "1*", "1/", "1<", "1="}) {
            says.fault("needs " + before + "not 1;", 3, 8);
        }
        says.fault("game 1;needs legs;", 3, 13);
        says.fault("needs 1;game depth;", 3, 13);
    }

    private void valueOrNot(String rule, String word, String[] values) {
        boolean value = Arrays.asList(values).contains(word);
        for (String before : new String[] {"", "1+", "1*", "1<", "1=", "(", "not ", "1 or ", "1 and "}) {
            String text = rule + before + word + (before.equals("(") ? ");" : ";");
            says.fault(text, value ? 0 : 3, value ? -1 : rule.length() + before.length());
        }
    }

    private void toldTwice() {
        says.term(1, "4 the Y of a CELL whose DEPTH, GLARE (each for itself) was told");
        for (String word : new String[] {"deep", "glare"}) {
            StringBuilder all = new StringBuilder();
            for (int cell = 0; cell < 40; cell++) {
                all.append(word).append(cell % 8).append(" ").append(cell / 8).append(" 1;");
            }
            says.noFault(all.toString());
            for (int cell = 0; cell < 40; cell++) {
                int y = all.length() + word.length() + 2;
                says.fault(all + word + cell % 8 + " " + cell / 8 + " 1;", 4, y);
                says.fault(all + word + cell % 8 + " " + cell / 8, 4, y);
            }
            says.fault(word + " 1 1 3;" + word + " 1 1 99", 4, 2 * word.length() + 10);
        }
        says.noFault("deep 1 1 1;glare 1 1 1;deep 2 1 1;deep 1 2 1;glare 2 1 1;glare 1 2 1;");
        says.noFault("swimmer 1 1 1;swimmer 1 1 1;look 1 1 1;look 1 1 1;chair 1 1;deep 1 1 1;");

        says.term(1, "5 a second 'chair', 'last', 'tire', 'needs', 'trouble' (but of a CASE)");
        for (String line : new String[] {"chair 0 0;", "last 1;", "tire 1;", "needs 1;", "trouble 1;"}) {
            String word = line.substring(0, line.indexOf(' '));
            says.fault(line + line, 5, line.length());
            says.fault(line + word, 5, line.length());
            says.fault(line + "look 0 0 1; " + word + " whale", 5, line.length() + 12);
        }
        says.noFault("case 0 0 0 0 trouble;trouble 1;case 0 0 0 0 trouble;");
        says.fault("trouble 1;case 0 0 0 0 trouble;trouble 1;", 5, 31);
    }

    // ---- promises 1 to 4

    private void newObject() {
        says.promise(1, "A POOL as without all.");
        LaneEyes eyes = new LaneEyes();
        int[] counts = {8, 5, 0, 0, 0, 60, 20, 0, 0, 0, 0, 0, 0, 0, 0, 0, 0, 0, 0};
        for (int what = 0; what < counts.length; what++) {
            says.due("count(" + what + ")", counts[what], eyes.count(what));
        }
        for (int cell = 0; cell < 40; cell++) {
            int far = cell % 8 + cell / 8;
            int[] want = {3, 0, far, 0, 1 + far / 3, -1, 0};
            for (int what = 0; what < want.length; what++) {
                says.due("cell(" + cell + ", " + what + ")", want[what], eyes.cell(cell, what));
            }
        }
        says.due("fault()", -1, eyes.fault());
        says.due("undo()", -1, eyes.undo());
        says.due("restore()", false, eyes.restore());
        says.dueThrow("row(0)", Checks.NO_SUCH, () -> eyes.row(0));
        LaneEyes other = new LaneEyes();
        other.chair(7);
        says.due("another object's CHAIR", 0, eyes.count(4));
    }

    private void feeds() {
        says.promise(2, "Twenty bytes come behind the tape, of each number the highest first: how many it has");
        LaneEyes eyes = new LaneEyes();
        says.due("the first twenty", 20, eyes.feed(0x6c617374, 0x20393b74, 0x69726520, 0x373b6c6f, 0x6f6b2037));
        says.due("twenty more", 40, eyes.feed(0x20342036, 0x3b202020, 0x20202020, 0x20202020, 0x0a0a0a0a));
        says.due("last 9;tire 7;look 7 4 6;", 0, eyes.lanes(40));
        says.due("LAST", 9, eyes.count(5));
        says.due("TIRE", 7, eyes.count(6));
        says.due("LOOK", 39, eyes.look(0, 0));
        says.due("SECONDS", 6, eyes.look(0, 1));

        says.promise(2, "NONE, and none come, if it would have more than 700");
        byte[] text = ("last 9;" + " ".repeat(693)).getBytes(StandardCharsets.ISO_8859_1);
        for (int i = 1; i <= 34; i++) {
            says.due("feed " + i, 20 * i, eyes.feed(0x20202020, 0x20202020, 0x20202020, 0x20202020, 0x20202020));
        }
        says.due("700 are not more", 700, eyes.feed(0x20202020, 0x20202020, 0x20202020, 0x206c6173, 0x74202038));
        for (int i = 0; i < 3; i++) {
            says.due("720 are", -1, eyes.feed(0x3b3b3b3b, 0x3b3b3b3b, 0x3b3b3b3b, 0x3b3b3b3b, 0x3b3b3b3b));
            says.due("it still has 700", 700, eyes.count(14));
        }
        says.due("none came: it ends behind 'last  8'", 1, eyes.lanes(700));
        says.due("at its end", 700, eyes.fault());
        says.due("no STATUS", 0, eyes.count(16) + eyes.count(17));
        Checks.feed(eyes, text);
        says.due("behind that it takes 700 again", 700, eyes.count(14));
        says.due("and reads them", 0, eyes.lanes(700));
    }

    private void wrongLanes() {
        says.promise(3, "IllegalArgumentException: the tape has not so many, n below 0 (nothing changes).");
        LaneEyes eyes = Checks.told("pool 3 2;swimmer 1 1 4;look 1 1 2;last 9;");
        says.due("a FAULT", 1, Checks.tell(eyes, "whale;"));
        eyes.swim(0, 2);
        eyes.dummy(5);
        eyes.heads(0, 1);
        eyes.order();
        eyes.image();
        eyes.feed(0x6c617374, 0x20373b20, 0x20202020, 0x20202020, 0x20202020);
        int[] wrong = {21, 22, 700, 701, Integer.MAX_VALUE, -1, -20, Integer.MIN_VALUE};
        for (int n : wrong) {
            says.dueThrow("lanes(" + n + ")", Checks.ILLEGAL, () -> eyes.lanes(n));
            int[] counts = {3, 2, 1, 1, 0, 9, 20, 0, 0, 0, 2, 1, 1, 1, 20, 1, 0, 0, 1};
            for (int what = 0; what < counts.length; what++) {
                says.due("count(" + what + ") behind lanes(" + n + ")", counts[what], eyes.count(what));
            }
            says.due("fault() behind lanes(" + n + ")", 0, eyes.fault());
            says.due("row(0) behind lanes(" + n + ")", 0, eyes.row(0));
            says.due("restore() behind lanes(" + n + ")", true, eyes.restore());
        }
        says.due("the tape is as it was", 0, eyes.lanes(20));
        says.due("LAST", 7, eyes.count(5));
        says.dueThrow("the tape is empty", Checks.ILLEGAL, () -> eyes.lanes(1));
        says.due("none of none", 0, eyes.lanes(0));
        says.due("LAST anew", 60, eyes.count(5));
    }

    private void lanesAnew() {
        says.promise(3, "The tape's first n bytes (it is empty then) are LANES, all anew: 0");
        LaneEyes eyes = Checks.told("pool 3 2;deep 2 1 9;glare 2 1 9;swimmer 1 1 4;chair 2 1;look 1 1 2;last 9;tire 9;"
            + "needs 9;trouble 9;case 0 0 0 0 trouble;game 1;");
        eyes.minutes(5);
        Checks.feed(eyes, "look 0 0 1;look 0 0 1;whale".getBytes(StandardCharsets.ISO_8859_1));
        says.due("the first 11", 0, eyes.lanes(11));
        int[] counts = {8, 5, 0, 1, 0, 60, 20, 0, 0, 0, 1, 0, 0, 0, 0, 0, 0, 0, 1};
        for (int what = 0; what < counts.length; what++) {
            says.due("count(" + what + ")", counts[what], eyes.count(what));
        }
        says.due("DEPTH", 3, eyes.cell(5, 0));
        says.due("GLARE", 0, eyes.cell(5, 1));
        says.due("NEED", 2, eyes.cell(5, 4));
        toldAgain();

        says.promise(3, "or the FAULT (all stays)");
        LaneEyes stays = busy();
        says.due("a FAULT", 5, Checks.tell(stays, "pool 4 4;last 5;needs 9;game 0;game 1;swimmer 0 0 0;look 0 0 9;deep 0 0 1;last"));
        stillBusy(stays, 1);
        says.due("another", 1, Checks.tell(stays, "trouble 1;case 0 0 0 0 fun;glare 0 0 9;chair 1 1;tire 9;whale"));
        stillBusy(stays, 2);
        says.due("the tape is empty then too", 0, stays.count(14));

        says.promise(3, "ACTS, DUMMIES, HEADS, rows that are kept, the image are gone (STATUS stays)");
        LaneEyes gone = busy();
        gone.swim(0, -1);
        gone.dummy(-1);
        Checks.tell(gone, "whale");
        says.due("a text", 0, Checks.tell(gone, "pool 3 2;swimmer 1 1 4;look 1 1 2;look 0 0 2;"));
        says.due("ACTS", 0, gone.count(11));
        says.due("undo()", -1, gone.undo());
        says.due("DUMMIES", 0, gone.count(12));
        says.due("HEADS", 0, gone.count(13));
        says.dueThrow("row(0)", Checks.NO_SUCH, () -> gone.row(0));
        says.due("restore()", false, gone.restore());
        says.due("MINUTES", 0, gone.count(7));
        for (int what = 15; what <= 17; what++) {
            says.due("STATUS", 1, gone.count(what));
        }
    }

    /** Nothing of a text, not even that it was told, is left when the next one comes. */
    private void toldAgain() {
        LaneEyes eyes = new LaneEyes();
        String rule = "needs 1" + "+1".repeat(330) + ";";
        for (int times = 0; times < 3; times++) {
            says.due("a long rule", 0, Checks.tell(eyes, rule));
            says.due("its NEED", 30, eyes.cell(0, 4));
            says.due("all that is told once", 0, Checks.tell(eyes, "pool 2 2;deep 0 0 9;glare 0 0 9;chair 1 1;last 1;tire 1;needs 2;"
                + "trouble 3;case 1 1 1 1 trouble;game 1;swimmer 0 0 9;look 0 0 9;"));
            says.due("NEED", 2, eyes.cell(0, 4));
            says.due("trouble", 3, eyes.swimmer(0, 2));
            says.due("MISSED", 1, eyes.game(0, 1));
            says.due("another", 0, Checks.tell(eyes, "case 1 1 1 1 fun;game 0;swimmer 0 0 9;"));
            says.due("FALSE", 1, eyes.game(0, 0));
            says.due("MISSED", 0, eyes.game(0, 1));
            says.due("NEED without", 1, eyes.cell(0, 4));
            says.due("trouble without", 1, eyes.swimmer(0, 2));
            says.due("DEPTH without", 3, eyes.cell(0, 0));
            says.due("GLARE without", 0, eyes.cell(0, 1));
            says.due("THE CHAIR without", 0, eyes.count(4));
            says.due("a FAULT behind much", 5, Checks.tell(eyes, "deep 0 0 9;glare 0 0 9;chair 1 1;tire 1;needs 2;trouble 3;last 1;last"));
        }
    }

    /** With one ACT, two DUMMIES, three HEADS, a row, an image. */
    private static LaneEyes busy() {
        LaneEyes eyes = Checks.told("pool 3 2;swimmer 1 1 4;look 1 1 2;look 0 0 1;last 9;needs 2;trouble 8;game 1;case 0 0 0 0 trouble;");
        eyes.minutes(33);
        eyes.dummy(5);
        eyes.dummy(6);
        eyes.heads(0, 1);
        eyes.heads(0, 1);
        eyes.heads(1, 0);
        eyes.lengths();
        eyes.image();
        return eyes;
    }

    private void stillBusy(LaneEyes eyes, int faults) {
        int[] counts = {3, 2, 1, 2, 0, 9, 20, 33, 1, 1, 3, 1, 2, 3, 0, faults, 0, 0, 2};
        for (int what = 0; what < counts.length; what++) {
            says.due("count(" + what + ")", counts[what], eyes.count(what));
        }
        says.due("NEED", 2, eyes.cell(0, 4));
        says.due("DEPTH", 3, eyes.cell(0, 0));
        says.due("GLARE", 0, eyes.cell(0, 1));
        says.due("the SWIMMER's CELL", 4, eyes.swimmer(0, 0));
        says.due("SKILL", 4, eyes.swimmer(0, 1));
        says.due("trouble", 8, eyes.swimmer(0, 2));
        says.due("the GAME", 1, eyes.game(0, 1));
        says.due("the row", 2, eyes.row(0));
        says.due("the row", 1, eyes.row(1));
        says.due("the DUMMIES", 6, eyes.dummies(2));
        says.due("the image", true, eyes.restore());
    }

    private void latestFault() {
        says.promise(4, "The place of the latest lanes()'s FAULT; NONE without.");
        LaneEyes eyes = new LaneEyes();
        says.due("no lanes() yet", -1, eyes.fault());
        Checks.tell(eyes, "whale;");
        says.due("at the beginning", 0, eyes.fault());
        Checks.tell(eyes, "last 1;last 1;");
        says.due("the latest", 7, eyes.fault());
        says.due("asked again", 7, eyes.fault());
        eyes.chair(99);
        says.due("a refused ACT is none", 7, eyes.fault());
        Checks.tell(eyes, "last 1;");
        says.due("the latest has none", -1, eyes.fault());
        Checks.tell(eyes, "last 1" + " ".repeat(694));
        says.due("at the end", 700, eyes.fault());
        eyes.lanes(0);
        says.due("of no bytes", -1, eyes.fault());
    }
}
