import java.util.Random;

/** Whatever the numbers and the texts are, a call answers or throws what the document names. */
public final class FuzzTest {
    private static final Checks CHECKS = new Checks("FuzzTest");
    private static final int[] EDGES = {Integer.MIN_VALUE, -1000, -2, -1, 0, 1, 2, 3, 5, 6, 7, 8, 9, 10, 11, 12, 13, 18, 19,
        39, 40, 99, 100, 101, 700, 701, 998, 999, 1000, 65536, Integer.MAX_VALUE};
    private static final String[] PIECES = {"pool", "deep", "glare", "swimmer", "chair", "look", "last", "tire", "case",
        "needs", "trouble", "game", "fun", "or", "and", "not", "depth", "far", "crowd", "tired", "skill", "legs", "mouth",
        "waves", "screams", "whale", ";", "(", ")", "+", "-", "*", "/", "<", "=", "\n", "0", "1", "2", "9", "10", "12345", "#"};

    public static void main(String[] args) {
        for (int seed = 0; seed < 400; seed++) {
            Random random = new Random(seed);
            LaneEyes eyes = new LaneEyes();
            for (int call = 0; call < 500; call++) {
                call(eyes, random, random.nextInt(46), "seed " + seed + " call " + call);
            }
        }
        CHECKS.end();
    }

    private static int any(Random random) {
        switch (random.nextInt(4)) {
            case 0: return EDGES[random.nextInt(EDGES.length)];
            case 1: return random.nextInt();
            default: return random.nextInt(6);
        }
    }

    private static String anyText(Random random) {
        if (random.nextInt(3) == 0) {
            StringBuilder text = new StringBuilder();
            for (int i = random.nextInt(40); i > 0; i--) {
                text.append(PIECES[random.nextInt(PIECES.length)]).append(random.nextInt(3) == 0 ? "" : " ");
            }
            return text.toString();
        }
        StringBuilder text = new StringBuilder(new Model(random).text);
        for (int i = random.nextInt(3); i > 0 && text.length() > 0; i--) {
            int at = random.nextInt(text.length());
            switch (random.nextInt(4)) {
                case 0: text.setCharAt(at, (char) random.nextInt(256)); break;
                case 1: text.deleteCharAt(at); break;
                case 2: text.setLength(at); break;
                default: text.insert(at, PIECES[random.nextInt(PIECES.length)]); break;
            }
        }
        if (text.length() > 700) {
            text.setLength(700);
        }
        return text.toString();
    }

    private static void call(LaneEyes eyes, Random random, int which, String where) {
        int a = any(random);
        int b = any(random);
        int c = any(random);
        String got = "nothing";
        try {
            answer(eyes, random, which, a, b, c, where);
        } catch (RuntimeException e) {
            got = e.getClass().getSimpleName();
        }
        CHECKS.due(where + ": call " + which + " of " + a + ", " + b + ", " + c + " threw " + got, true,
            got.equals("nothing") || mayThrow(which, got));
    }

    private static boolean mayThrow(int which, String name) {
        switch (which) {
            case 1: case 23: case 27: case 30: return name.equals(Checks.ILLEGAL);
            case 3: case 4: case 5: case 6: case 7: case 8: case 9: case 11: case 18: case 19: case 20:
            case 24: case 25: case 29: case 33: case 36: case 37: return name.equals(Checks.NO_SUCH);
            case 34: return name.equals(Checks.NO_SUCH) || name.equals(Checks.ILLEGAL);
            default: return false;
        }
    }

    private static void answer(LaneEyes eyes, Random random, int which, int a, int b, int c, String where) {
        switch (which) {
            case 0: eyes.feed(a, b, c, random.nextInt(), random.nextInt()); break;
            case 1: eyes.lanes(a); break;
            case 2: eyes.fault(); break;
            case 3: eyes.count(a); break;
            case 4: eyes.cell(a, b); break;
            case 5: eyes.look(a, b); break;
            case 6: eyes.swimmer(a, b); break;
            case 7: eyes.delay(a, b); break;
            case 8: eyes.worst(a); break;
            case 9: eyes.swim(a, b); break;
            case 10: eyes.chair(a); break;
            case 11: eyes.lasts(a, b); break;
            case 12: eyes.change(a, b); break;
            case 13: eyes.minutes(a); break;
            case 14: eyes.undo(); break;
            case 15: eyes.order(); break;
            case 16: eyes.lengths(); break;
            case 17: eyes.swap(); break;
            case 18: eyes.row(a); break;
            case 19: eyes.best(a); break;
            case 20: eyes.away(a); break;
            case 21: eyes.many(); break;
            case 22: eyes.fun(); break;
            case 23: eyes.halves(a); break;
            case 24: eyes.two(a); break;
            case 25: eyes.game(a, b); break;
            case 26: eyes.dummy(a); break;
            case 27: eyes.jump(a, b); break;
            case 28: eyes.heads(a, b); break;
            case 29: eyes.dummies(a); break;
            case 30: eyes.more(a); break;
            case 31: eyes.forget(); break;
            case 32: eyes.blind(); break;
            case 33: eyes.missing(a); break;
            case 34: eyes.week(a, b, c); break;
            case 35: eyes.image(); break;
            case 36: eyes.without(a); break;
            case 37: eyes.risk(a); break;
            case 38: eyes.restore(); break;
            default: if (which < 41) { tellAny(eyes, random, where); } break;
        }
    }

    private static void tellAny(LaneEyes eyes, Random random, String where) {
        if (eyes.count(14) > 0) {
            eyes.lanes(0);
        }
        String text = anyText(random);
        int refused = eyes.count(15);
        int fault = Checks.tell(eyes, text);
        CHECKS.due(where + ": a fault is 0 to 5", true, fault >= 0 && fault <= 5);
        CHECKS.due(where + ": its place", true, fault == 0 ? eyes.fault() == -1 : eyes.fault() >= 0 && eyes.fault() <= text.length());
        CHECKS.due(where + ": counted", refused + (fault == 0 ? 0 : 1), eyes.count(15));
    }
}
