/** Promises 1 to 4: a new object, the tape, texts and their faults. */
public final class TextTest {
    private static final Checks CHECKS = new Checks("TextTest");

    public static void main(String[] args) {
        newObject();
        tape();
        texts();
        faultsOfLines();
        faultsOfExpressions();
        whatAFaultLeaves();
        whatATextEnds();
        CHECKS.end();
    }

    private static void newObject() {
        LaneEyes eyes = new LaneEyes();
        int[] want = {8, 5, 0, 0, 0, 60, 20, 0, 0, 0, 0, 0, 0, 0, 0, 0, 0, 0, 0};
        for (int what = 0; what < want.length; what++) {
            CHECKS.due("new count(" + what + ")", want[what], eyes.count(what));
        }
        for (int cell = 0; cell < 40; cell++) {
            CHECKS.due("new depth", 3, eyes.cell(cell, 0));
            CHECKS.due("new glare", 0, eyes.cell(cell, 1));
        }
        CHECKS.due("new fault()", -1, eyes.fault());
        CHECKS.dueThrow("new row(0)", Checks.NO_SUCH, () -> eyes.row(0));
        CHECKS.due("new restore()", false, eyes.restore());
    }

    private static void tape() {
        LaneEyes eyes = new LaneEyes();
        for (int i = 1; i <= 35; i++) {
            CHECKS.due("feed " + i, 20 * i, eyes.feed(0x20202020, 0x20202020, 0x20202020, 0x20202020, 0x0a0a0a0a));
        }
        CHECKS.due("feed 36", -1, eyes.feed(0, 0, 0, 0, 0));
        CHECKS.due("tape", 700, eyes.count(14));
        CHECKS.dueThrow("lanes(701)", Checks.ILLEGAL, () -> eyes.lanes(701));
        CHECKS.dueThrow("lanes(-1)", Checks.ILLEGAL, () -> eyes.lanes(-1));
        CHECKS.dueThrow("lanes(MIN)", Checks.ILLEGAL, () -> eyes.lanes(Integer.MIN_VALUE));
        CHECKS.due("tape still", 700, eyes.count(14));
        CHECKS.due("blanks alone", 0, eyes.lanes(700));
        CHECKS.due("tape empty", 0, eyes.count(14));
        CHECKS.due("refused stays 0", 0, eyes.count(15));
        CHECKS.dueThrow("lanes(1) of an empty tape", Checks.ILLEGAL, () -> eyes.lanes(1));
        CHECKS.due("lanes(0)", 0, eyes.lanes(0));
        // "last 7;" and thirteen bytes that would be a fault: only the first seven count
        CHECKS.due("feed", 20, eyes.feed(0x6c617374, 0x20373b21, 0x80ffffff, -1, Integer.MIN_VALUE));
        CHECKS.due("the first seven", 0, eyes.lanes(7));
        CHECKS.due("last", 7, eyes.count(5));
        CHECKS.due("the rest is gone", 0, eyes.count(14));
        // "last 234deepdeepdeep": a word and a number that go on behind the text
        for (int n = 0; n <= 20; n++) {
            eyes.feed(0x6c617374, 0x20323334, 0x64656570, 0x64656570, 0x64656570);
            CHECKS.due("cut at " + n, n == 0 ? 0 : 1, eyes.lanes(n));
            CHECKS.due("place of the cut at " + n, n == 0 ? -1 : n < 4 ? 0 : n <= 8 ? n : 8, eyes.fault());
        }
        long700();
    }

    private static void long700() {
        StringBuilder text = new StringBuilder("case 0 0 0 0 fun");
        text.insert(0, " ".repeat(700 - text.length()));
        fault(text.toString(), 1, 700);
        text.setLength(0);
        text.append("needs 1");
        while (text.length() < 697) {
            text.append("+1");
        }
        text.append(";  ");
        LaneEyes eyes = new LaneEyes();
        for (int times = 0; times < 4; times++) {
            CHECKS.due("a long rule", 0, Checks.tell(eyes, text.toString()));
            CHECKS.due("is worked off", 30, eyes.cell(0, 4));
            CHECKS.due("a short one", 0, Checks.tell(eyes, "needs 2;game 0;case 1 1 1 1 fun;"));
            CHECKS.due("is worked off", 2, eyes.cell(0, 4));
            CHECKS.due("and the game", 1, eyes.game(0, 0));
        }
    }

    private static void texts() {
        LaneEyes eyes = Checks.told("pool2 3;deep 1 2 9\n;glare 1 2 8;swimmer 1 2 7;chair 0 1;look 1 2 6;last 300;"
            + "tire 99;needs 4;trouble 5;case 1 2 3 4 fun;case 9 9 9 9 trouble;game 1;game 0;");
        int[] want = {2, 3, 1, 1, 2, 300, 99, 0, 2, 2, 6};
        for (int what = 0; what < want.length; what++) {
            CHECKS.due("count(" + what + ")", want[what], eyes.count(what));
        }
        CHECKS.due("depth", 9, eyes.cell(5, 0));
        CHECKS.due("glare", 8, eyes.cell(5, 1));
        CHECKS.due("skill", 7, eyes.swimmer(0, 1));
        CHECKS.due("needs", 4, eyes.cell(0, 4));
        CHECKS.due("trouble", 5, eyes.swimmer(0, 2));
        noFault("");
        noFault("pool 1 1;");
        noFault("pool 8 5;deep 7 4 1;glare 7 4 9;");
        noFault("deep 0000 0000 0001;");
        noFault("glare 0 0 0;");
        noFault("glare 0 0 9;");
        noFault("deep 0 0 1;");
        noFault("deep 0 0 9;");
        noFault("last 1;tire 1;look 0 0 1;swimmer 0 0 0;");
        noFault("last 300;tire 99;look 7 4 9;swimmer 7 4 9;chair 7 4;case 9 9 9 9 fun;");
        noFault("deep 0 0 1;glare 0 0 1;deep 1 0 1;");
        noFault("needs 1<2 and not 3=4 or depth*glare/far-crowd+tired;");
        noFault("trouble skill+depth+glare+crowd+far;");
        noFault("game legs+mouth+waves+screams;");
        noFault("needs not not not not not not 1;");
        noFault("needs not not not not not not (not not not not not not 1);");
        noFault("needs (((((1)))));");
        noFault("needs 9999;");
        noFault("case 1 1 1 1 trouble;trouble 1;case 1 1 1 1 trouble;");
        noFault("needs(1)and(2)or not(3);");
        noFault("swimmer 0 0 1;".repeat(12));
        noFault("look 0 0 1;".repeat(12));
        noFault("case 0 0 0 0 fun;".repeat(10));
        noFault("game 1;".repeat(4));
    }

    private static void faultsOfLines() {
        fault(";", 1, 0);
        fault("5;", 1, 0);
        fault("99999;", 1, 0);
        fault("Last 1;", 1, 0);
        fault("last 1;\u00e9", 1, 7);
        fault("last 1;  #", 1, 9);
        fault("lasts 1;", 1, 0);
        fault("keep 0 0 1;", 1, 0);
        fault("dee 0 0 1;", 1, 0);
        fault("or 1;", 1, 0);
        fault("depth 0 0 1;", 1, 0);
        fault("last", 1, 4);
        fault("last  \n ", 1, 8);
        fault("last 1", 1, 6);
        fault("last 1 2;", 1, 7);
        fault("last one;", 1, 5);
        fault("last -1;", 1, 5);
        fault("pool 8 5;pool 8 5;", 1, 9);
        fault("last 1;pool 8 5;", 1, 7);
        fault("pool 8;", 1, 6);
        fault("pool 8 5", 1, 8);
        fault("pool 8 5 last 1;", 1, 9);
        fault("pool 0 0;", 2, 5);
        fault("pool 8 0;", 2, 7);
        fault("pool 9 5;", 2, 5);
        fault("pool 8 6;", 2, 7);
        fault("pool 00008 5;", 2, 5);
        fault("pool 2 3;deep 2 0 1;", 2, 14);
        fault("pool 2 3;deep 0 3 1;", 2, 16);
        fault("deep 0 0 0;", 2, 9);
        fault("deep 0 0 10;", 2, 9);
        fault("deep 0 0 00001;", 2, 9);
        fault("deep 0 0;", 1, 8);
        fault("glare 0 0 10;", 2, 10);
        fault("deep 1 1 1;deep 1 1 0;", 4, 18);
        fault("deep 1 1 1;glare 1 1 1;glare 1 1 1;", 4, 31);
        fault("deep 1 4 1;deep 1 5 1;", 2, 18);
        fault("swimmer 8 0 1;", 2, 8);
        fault("swimmer 0 5 1;", 2, 10);
        fault("swimmer 0 0 10;", 2, 12);
        fault("swimmer 0 0 1;".repeat(12) + "swimmer;", 2, 168);
        fault("chair 0 0 1;", 1, 10);
        fault("chair 8 0;", 2, 6);
        fault("chair 0 5;", 2, 8);
        fault("chair 0 0;chair", 5, 10);
        fault("look 0 0 0;", 2, 9);
        fault("look 0 0 10;", 2, 9);
        fault("look 8 0 1;", 2, 5);
        fault("look 0 5 1;", 2, 7);
        fault("look 0 0 1;".repeat(12) + "look;", 2, 132);
        fault("last 0;", 2, 5);
        fault("last 301;", 2, 5);
        fault("last 1;last", 5, 7);
        fault("tire 0;", 2, 5);
        fault("tire 100;", 2, 5);
        fault("tire 1;tire", 5, 7);
        fault("case 10 0 0 0 fun;", 2, 5);
        fault("case 0 10 0 0 fun;", 2, 7);
        fault("case 0 0 10 0 fun;", 2, 9);
        fault("case 0 0 0 10 fun;", 2, 11);
        fault("case 0 0 0 fun;", 1, 11);
        fault("case 0 0 0 0 0;", 1, 13);
        fault("case 0 0 0 0 game;", 1, 13);
        fault("case 0 0 0 0;", 1, 12);
        fault("case 0 0 0 0 fun;".repeat(10) + "case;", 2, 170);
        fault("game 1;".repeat(4) + "game;", 2, 28);
        fault("needs 1;needs", 5, 8);
        fault("trouble 1;trouble", 5, 10);
        fault("trouble 1;case 0 0 0 0 trouble;trouble 1;", 5, 31);
    }

    private static void faultsOfExpressions() {
        fault("needs ;", 1, 6);
        fault("needs", 1, 5);
        fault("needs 1", 1, 7);
        fault("needs 1 2;", 1, 8);
        fault("needs 1 99999;", 1, 8);
        fault("needs 1 depth;", 1, 8);
        fault("needs 1 not 2;", 1, 8);
        fault("needs 1 whale;", 1, 8);
        fault("needs 1<2<3;", 1, 9);
        fault("needs 1=2<3;", 1, 9);
        fault("needs -1;", 1, 6);
        fault("needs 1+;", 1, 8);
        fault("needs 1+*2;", 1, 8);
        fault("needs ();", 1, 7);
        fault("needs (1;", 1, 8);
        fault("needs 1);", 1, 7);
        fault("needs (1", 1, 8);
        fault("needs 1>2;", 1, 7);
        fault("needs 1 or;", 1, 10);
        fault("needs not;", 1, 9);
        fault("needs 10000;", 2, 6);
        fault("needs 00000;", 2, 6);
        fault("needs 123456789012;", 2, 6);
        fault("needs 1+99999;", 2, 8);
        fault("needs ((((((1))))));", 2, 12);
        fault("needs ((((((whale", 2, 12);
        fault("needs ((((((not 1", 2, 12);
        fault("needs (((((((1", 2, 12);
        fault("needs ((((((;", 1, 12);
        fault("needs ((((((", 1, 12);
        fault("needs ((((((+", 1, 12);
        fault("needs ((((((]", 1, 12);
        fault("needs (((((1)))))+((((((1))))));", 2, 24);
        fault("needs not not not not not not not 1;", 2, 30);
        fault("needs 1 and not not not not not not not", 2, 36);
        fault("needs skill;", 3, 6);
        fault("needs legs;", 3, 6);
        fault("needs or;", 3, 6);
        fault("needs and 1;", 3, 6);
        fault("needs pool;", 3, 6);
        fault("needs needs;", 3, 6);
        fault("needs not or;", 3, 10);
        fault("needs 1<not 2;", 3, 8);
        fault("needs 1+not 2;", 3, 8);
        fault("needs 1*whale;", 3, 8);
        fault("needs (fun);", 3, 7);
        fault("needs depths;", 3, 6);
        fault("needs dept h;", 3, 6);
        fault("trouble tired;", 3, 8);
        fault("trouble waves;", 3, 8);
        fault("game depth;", 3, 5);
        fault("game skill;", 3, 5);
        fault("game tired;", 3, 5);
        fault("game 1;needs waves;", 3, 13);
        fault("needs zebra;", 3, 6);
        fault("needs a;", 3, 6);
        fault("needs depthz;", 3, 6);
        fault("needs `;", 1, 6);
        fault("needs {;", 1, 6);
        fault("needs 1:2;", 1, 7);
        fault("needs 1\t;", 1, 7);
        fault("needs 1\r;", 1, 7);
        everyWordAsAValue();
    }

    private static void everyWordAsAValue() {
        String[] words = {"pool", "deep", "swimmer", "chair", "look", "last", "tire", "case", "needs", "trouble", "game",
            "fun", "or", "and"};
        for (String word : words) {
            fault("needs " + word + ";", 3, 6);
            fault("trouble " + word + ";", 3, 8);
            fault("game " + word + ";", 3, 5);
            fault("needs 1+" + word + ";", 3, 8);
        }
        values("needs", "depth", "glare", "far", "crowd", "tired");
        values("trouble", "depth", "glare", "far", "crowd", "skill");
        values("game", "legs", "mouth", "waves", "screams");
    }

    private static void values(String rule, String... names) {
        String[] all = {"depth", "glare", "far", "crowd", "tired", "skill", "legs", "mouth", "waves", "screams"};
        for (String name : all) {
            boolean may = java.util.Arrays.asList(names).contains(name);
            fault(rule + " " + name + ";", may ? 0 : 3, may ? -1 : rule.length() + 1);
        }
    }

    private static void whatAFaultLeaves() {
        LaneEyes eyes = Checks.told("pool 3 2;swimmer 1 1 4;look 1 1 2;last 9;needs 2;game 1;");
        eyes.swim(0, 2);
        eyes.dummy(5);
        eyes.heads(0, 1);
        eyes.order();
        eyes.image();
        CHECKS.due("fault", 2, Checks.tell(eyes, "pool 4 4;last 5;needs 9;game 0;swimmer 0 0 0;tire 100;"));
        CHECKS.due("its place", 50, eyes.fault());
        int[] want = {3, 2, 1, 1, 0, 9, 20, 0, 1, 0, 2, 1, 1, 1, 0, 1, 0, 0, 1};
        for (int what = 0; what < want.length; what++) {
            CHECKS.due("all stays: count(" + what + ")", want[what], eyes.count(what));
        }
        CHECKS.due("the row stays", 0, eyes.row(0));
        CHECKS.due("needs stays", 2, eyes.cell(0, 4));
        CHECKS.due("the swimmer stays", 2, eyes.swimmer(0, 0));
        CHECKS.due("the image stays", true, eyes.restore());
        CHECKS.dueThrow("lanes(1)", Checks.ILLEGAL, () -> eyes.lanes(1));
        CHECKS.due("the fault stays", 50, eyes.fault());
        CHECKS.due("and is not counted", 1, eyes.count(15));
        CHECKS.due("a text", 0, Checks.tell(eyes, ""));
        CHECKS.due("no fault", -1, eyes.fault());
        CHECKS.due("faults counted", 1, eyes.count(15));
    }

    private static void whatATextEnds() {
        LaneEyes eyes = Checks.told("pool 3 2;deep 0 0 9;glare 0 0 9;swimmer 1 1 4;look 1 1 2;last 9;tire 5;"
            + "needs 2;trouble 8;case 0 0 0 0 trouble;game 1;chair 2 1;");
        eyes.minutes(7);
        eyes.minutes(-1);
        eyes.dummy(5);
        eyes.dummy(-1);
        eyes.heads(0, 1);
        eyes.order();
        eyes.image();
        CHECKS.due("a new text", 0, Checks.tell(eyes, "swimmer 0 0 3;look 0 0 1;case 0 0 0 0 fun;game 1;"));
        int[] want = {8, 5, 1, 1, 0, 60, 20, 0, 1, 1, 1, 0, 0, 0, 0, 0, 1, 1, 1};
        for (int what = 0; what < want.length; what++) {
            CHECKS.due("all anew: count(" + what + ")", want[what], eyes.count(what));
        }
        CHECKS.due("depth anew", 3, eyes.cell(0, 0));
        CHECKS.due("glare anew", 0, eyes.cell(0, 1));
        CHECKS.due("needs anew", 1, eyes.cell(0, 4));
        CHECKS.due("needs anew", 4, eyes.cell(39, 4));
        CHECKS.due("trouble anew", 7, eyes.swimmer(0, 2));
        CHECKS.due("cases anew", 0, eyes.game(0, 1));
        CHECKS.dueThrow("the row is gone", Checks.NO_SUCH, () -> eyes.row(0));
        CHECKS.due("the image is gone", false, eyes.restore());
        CHECKS.due("acts are gone", -1, eyes.undo());
        for (int times = 0; times < 2; times++) {
            CHECKS.due("told once in each text", 0,
                Checks.tell(eyes, "deep 0 0 1;glare 0 0 1;chair 0 0;last 1;tire 1;needs 1;trouble 1;"));
        }
    }

    private static void noFault(String text) {
        fault(text, 0, -1);
    }

    private static void fault(String text, int fault, int place) {
        LaneEyes eyes = new LaneEyes();
        CHECKS.due("lanes of \"" + text + "\"", fault, Checks.tell(eyes, text));
        CHECKS.due("fault() of \"" + text + "\"", place, eyes.fault());
        CHECKS.due("tape behind \"" + text + "\"", 0, eyes.count(14));
        CHECKS.due("refused of \"" + text + "\"", fault == 0 ? 0 : 1, eyes.count(15));
    }
}
