import java.util.Arrays;
import java.util.NoSuchElementException;

/** A pool of cells, who swims in it, and how soon the one in the chair sees trouble. */
public final class LaneEyes {
    public static final int NONE = -1;

    private static final int SPENT = -2;
    /** Stands above every delay, so that "never" is the worst of all by itself. */
    private static final int NEVER = 0x7fffffff;

    private static final int MOST_BYTES = 700;
    private static final int MOST_CELLS = 40;
    private static final int MOST_SWIMMERS = 12;
    private static final int MOST_LOOKS = 12;
    private static final int MOST_SECONDS = 9;
    private static final int MOST_GAMES = 4;
    private static final int MOST_CASES = 10;
    private static final int MOST_ACTS = 40;
    private static final int MOST_DUMMIES = 12;
    private static final int MOST_HEADS = 8;
    private static final int MOST_NEED = 30;
    private static final int MOST_MINUTES = 999;
    private static final int MOST_NUMBER = 9999;
    private static final int MOST_NESTED = 6;
    private static final int MOST_NOTS = 6;
    private static final int ROUND_SECONDS = MOST_LOOKS * MOST_SECONDS;
    private static final int MOST_AWAY = 99;
    private static final int MOST_EXTRA = 40;
    private static final int LOOKS_TO_ORDER = 7;
    private static final int ORDERS = 720;
    private static final int LOOKS_TO_LENGTHEN = 5;

    private static final int VALUE_DEPTH = 0;
    private static final int VALUE_GLARE = 1;
    private static final int VALUE_FAR = 2;
    private static final int VALUE_CROWD = 3;
    private static final int VALUE_TIRED = 4;
    private static final int VALUE_SKILL = 5;
    private static final int VALUE_LEGS = 6;
    private static final int VALUE_MOUTH = 7;
    private static final int VALUE_WAVES = 8;
    private static final int VALUE_SCREAMS = 9;
    private static final int VALUES = 10;

    private static final int IN_NEEDS = 1;
    private static final int IN_TROUBLE = 2;
    private static final int IN_GAME = 4;

    private static final int NEEDS_RULE = 0;
    private static final int TROUBLE_RULE = 1;
    private static final int FIRST_GAME_RULE = 2;

    private static final int OP_OR = -1;
    private static final int OP_AND = -2;
    private static final int OP_NOT = -3;
    private static final int OP_LESS = -4;
    private static final int OP_SAME = -5;
    private static final int OP_PLUS = -6;
    private static final int OP_MINUS = -7;
    private static final int OP_TIMES = -8;
    private static final int OP_BY = -9;
    /** This one and those below it stand for values: value v is OP_VALUE - v. */
    private static final int OP_VALUE = -20;

    private static final int ACT_SWIM = 0;
    private static final int ACT_CHAIR = 1;
    private static final int ACT_LASTS = 2;
    private static final int ACT_CHANGE = 3;
    private static final int ACT_MINUTES = 4;

    private static final int TOKEN_END = 0;
    private static final int TOKEN_WORD = 1;
    private static final int TOKEN_NUMBER = 2;
    private static final int TOKEN_SIGN = 3;
    private static final int TOKEN_BAD = 4;

    private static final int FAULT_PLACE = 1;
    private static final int FAULT_TOO_MUCH = 2;
    private static final int FAULT_NO_VALUE = 3;
    private static final int FAULT_TOLD_CELL = 4;
    private static final int FAULT_SECOND = 5;

    private static final int TOLD_CHAIR = 1;
    private static final int TOLD_LAST = 2;
    private static final int TOLD_TIRE = 4;
    private static final int TOLD_NEEDS = 8;
    private static final int TOLD_TROUBLE = 16;

    private static final Word[] WORDS = Word.values();

    private final byte[] tape = new byte[MOST_BYTES];
    private int taped = 0;
    private int faultPlace = NONE;
    private int refusedTexts = 0;
    private int refusedActs = 0;
    private int refusedTold = 0;
    private final Parser parser = new Parser();
    private final Watch watch = new Watch();
    private final Pool pool = watch.pool;
    private final Live live = watch.live;
    private final Live kept = new Live();
    private boolean hasImage = false;
    private final Week weekly = new Week();
    private final Missing absent = new Missing();
    private final int[] keptRow = new int[MOST_LOOKS];
    private int keptRowSize = 0;

    public LaneEyes() {
    }

    // ---- the text

    public int feed(int a, int b, int c, int d, int e) {
        if (taped + 20 > MOST_BYTES) {
            return NONE;
        }
        putBytes(a);
        putBytes(b);
        putBytes(c);
        putBytes(d);
        putBytes(e);
        return taped;
    }

    private void putBytes(int number) {
        for (int shift = 24; shift >= 0 && taped < tape.length; shift -= 8) {
            tape[taped] = (byte) (number >>> shift);
            taped++;
        }
    }

    public int lanes(int n) throws IllegalArgumentException {
        if (n < 0 || n > taped) {
            throw new IllegalArgumentException("the tape has not so many bytes");
        }
        taped = 0;
        if (!parser.read(tape, n)) {
            refusedTexts++;
            faultPlace = parser.place;
            return parser.fault;
        }
        faultPlace = NONE;
        pool.copy(parser.pool);
        live.copy(parser.live);
        keptRowSize = 0;
        hasImage = false;
        return 0;
    }

    public int fault() {
        return faultPlace;
    }

    // ---- what there is

    public int count(int what) throws NoSuchElementException {
        wantWhat(what, 18);
        switch (what) {
            case 0: return pool.width;
            case 1: return pool.height;
            case 2: return pool.swimmers;
            case 3: return pool.looks;
            case 4: return live.chair;
            case 5: return pool.last;
            case 6: return pool.tire;
            case 7: return live.minutes;
            case 8: return pool.games;
            case 9: return pool.cases;
            case 10: return watch.roundSeconds();
            case 11: return live.acts;
            case 12: return live.dummies;
            case 13: return live.heads;
            case 14: return taped;
            case 15: return refusedTexts;
            case 16: return refusedActs;
            case 17: return refusedTold;
            default: return watch.cellsLookedAt();
        }
    }

    public int cell(int cell, int what) throws NoSuchElementException {
        wantCell(cell);
        wantWhat(what, 6);
        switch (what) {
            case 0: return pool.depth[cell];
            case 1: return pool.glare[cell];
            case 2: return pool.between(cell, live.chair);
            case 3: return watch.whoIsIn(cell);
            case 4: return watch.needNow(cell);
            case 5: return orNone(watch.worstOfCell(cell));
            default: return watch.unseen(cell);
        }
    }

    public int look(int look, int what) throws NoSuchElementException {
        wantLook(look);
        wantWhat(what, 1);
        return what == 0 ? live.lookAt[look] : live.lasting[look];
    }

    public int swimmer(int swimmer, int what) throws NoSuchElementException {
        wantSwimmer(swimmer);
        wantWhat(what, 2);
        switch (what) {
            case 0: return live.at[swimmer];
            case 1: return pool.skill[swimmer];
            default: return watch.weight(swimmer);
        }
    }

    public int delay(int cell, int second) throws NoSuchElementException {
        wantCell(cell);
        if (second < 0 || second >= watch.roundSeconds()) {
            throw new NoSuchElementException("no such second");
        }
        return orNone(watch.delayFrom(cell, second));
    }

    public int worst(int what) throws NoSuchElementException {
        wantWhat(what, 1);
        return what == 0 ? orNone(watch.worstNow()) : watch.worstCell();
    }

    // ---- acts

    public int swim(int swimmer, int cell) throws NoSuchElementException {
        wantSwimmer(swimmer);
        if (!pool.hasCell(cell)) {
            refusedActs++;
            return NONE;
        }
        int was = live.at[swimmer];
        live.noteAct(ACT_SWIM, swimmer, was);
        live.at[swimmer] = cell;
        return was;
    }

    public int chair(int cell) {
        if (!pool.hasCell(cell)) {
            refusedActs++;
            return NONE;
        }
        int was = live.chair;
        live.noteAct(ACT_CHAIR, 0, was);
        live.chair = cell;
        return was;
    }

    public int lasts(int look, int seconds) throws NoSuchElementException {
        wantLook(look);
        if (seconds < 1 || seconds > MOST_SECONDS) {
            refusedActs++;
            return NONE;
        }
        int was = live.lasting[look];
        live.noteAct(ACT_LASTS, look, was);
        live.lasting[look] = seconds;
        return was;
    }

    public boolean change(int one, int other) {
        if (!pool.hasLook(one) || !pool.hasLook(other) || one == other) {
            refusedActs++;
            return false;
        }
        live.noteAct(ACT_CHANGE, one, other);
        live.changeOver(one, other);
        return true;
    }

    public int minutes(int minutes) {
        if (minutes < 0 || minutes > MOST_MINUTES) {
            refusedActs++;
            return NONE;
        }
        int was = live.minutes;
        live.noteAct(ACT_MINUTES, 0, was);
        live.minutes = minutes;
        return was;
    }

    public int undo() {
        if (live.acts == 0) {
            return NONE;
        }
        live.takeBack();
        return live.acts;
    }

    // ---- what is best

    public int order() {
        if (pool.looks > LOOKS_TO_ORDER) {
            return SPENT;
        }
        int least = watch.bestOrder(keptRow);
        keptRowSize = pool.looks;
        return orNone(least);
    }

    public int lengths() {
        if (pool.looks > LOOKS_TO_LENGTHEN) {
            return SPENT;
        }
        int least = watch.bestLengths(keptRow);
        keptRowSize = pool.looks;
        return orNone(least);
    }

    public int row(int i) throws NoSuchElementException {
        if (i < 0 || i >= keptRowSize) {
            throw new NoSuchElementException("none is kept there");
        }
        return keptRow[i];
    }

    public int best(int what) throws NoSuchElementException {
        wantWhat(what, 1);
        int chair = watch.bestChair();
        return what == 0 ? chair : orNone(watch.worstFrom(chair));
    }

    public int away(int look) throws NoSuchElementException {
        wantLook(look);
        return watch.longestAway(look);
    }

    public int swap() {
        return watch.lastMinute();
    }

    public int many() {
        return watch.mostExtra();
    }

    public int halves(int x) throws IllegalArgumentException {
        if (x < 1 || x >= pool.width) {
            throw new IllegalArgumentException("no such x");
        }
        return orNone(watch.worstOfHalves(x));
    }

    public int two(int what) throws NoSuchElementException {
        wantWhat(what, 2);
        if (what == 2) {
            return orNone(watch.worstOfBoth());
        }
        int x = watch.bestHalves();
        if (what == 0 || x == NONE) {
            return x;
        }
        return orNone(watch.worstOfHalves(x));
    }

    // ---- games and jumps

    public int game(int game, int what) throws NoSuchElementException {
        if (game < 0 || game >= pool.games) {
            throw new NoSuchElementException("no such game");
        }
        wantWhat(what, 1);
        return watch.wrongCases(game, what == 1);
    }

    public int fun() {
        return watch.bestGame();
    }

    public int jump(int costs, int left) throws IllegalArgumentException {
        wantUpTo999(costs);
        wantUpTo999(left);
        for (int tenths = 0; tenths < 10; tenths++) {
            if (tenths * left >= (10 - tenths) * costs) {
                return tenths;
            }
        }
        return 10;
    }

    // ---- dummies and heads

    public int dummy(int delay) {
        if (live.dummies >= MOST_DUMMIES || delay < 0 || delay > 999) {
            refusedTold++;
            return NONE;
        }
        live.measured[live.dummies] = delay;
        live.dummies++;
        return live.dummies;
    }

    public int dummies(int what) throws NoSuchElementException {
        wantWhat(what, 3);
        switch (what) {
            case 0: return upperPart(live.allMeasured(), live.dummies);
            case 1: return lowerPart(live.allMeasured(), live.dummies);
            case 2: return live.greatestMeasured();
            default: return live.measuredAbove(pool.last);
        }
    }

    public int more(int mean) throws IllegalArgumentException {
        wantUpTo999(mean);
        int fewest = mean < 1 ? 0 : (live.allMeasured() + mean - 1) / mean;
        return Math.max(0, fewest - live.dummies);
    }

    public int heads(int y, int many) {
        if (live.heads >= MOST_HEADS || y < 0 || y >= pool.height || many < 0 || many > MOST_SWIMMERS) {
            refusedTold++;
            return NONE;
        }
        live.headRow[live.heads] = y;
        live.headMany[live.heads] = many;
        live.heads++;
        return live.heads;
    }

    public void forget() {
        live.dummies = 0;
        live.heads = 0;
    }

    public int missing(int what) throws NoSuchElementException {
        wantWhat(what, 2);
        absent.find(pool, live);
        switch (what) {
            case 0: return absent.sets;
            case 1: return absent.fewest;
            default: return absent.inAll;
        }
    }

    // ---- weeks and risks

    public int week(int seed, int n, int what) throws NoSuchElementException, IllegalArgumentException {
        wantWhat(what, 2);
        if (n < 0 || n > 100) {
            throw new IllegalArgumentException("not 0 to 100 times");
        }
        weekly.live(watch, seed, n);
        switch (what) {
            case 0: return weekly.together;
            case 1: return weekly.late;
            default: return weekly.greatest;
        }
    }

    public long blind() {
        return watch.blindCells();
    }

    public int without(int look) throws NoSuchElementException {
        wantLook(look);
        return orNone(watch.worstWithout(look));
    }

    public int risk(int what) throws NoSuchElementException {
        wantWhat(what, 1);
        int all = watch.allWeights();
        if (all == 0) {
            return what == 0 ? 0 : 1;
        }
        int seconds = watch.roundSeconds();
        if (seconds == 0) {
            return 1;
        }
        int late = watch.lateWeights();
        return what == 0 ? upperPart(late, all * seconds) : lowerPart(late, all * seconds);
    }

    // ---- the image

    public void image() {
        kept.copy(live);
        hasImage = true;
    }

    public boolean restore() {
        if (!hasImage) {
            return false;
        }
        live.copy(kept);
        return true;
    }

    // ---- what calls ask of their numbers

    private void wantWhat(int what, int most) {
        if (what < 0 || what > most) {
            throw new NoSuchElementException("no such what");
        }
    }

    private void wantCell(int cell) {
        if (!pool.hasCell(cell)) {
            throw new NoSuchElementException("no such cell");
        }
    }

    private void wantLook(int look) {
        if (!pool.hasLook(look)) {
            throw new NoSuchElementException("no such look");
        }
    }

    private void wantSwimmer(int swimmer) {
        if (swimmer < 0 || swimmer >= pool.swimmers) {
            throw new NoSuchElementException("no such swimmer");
        }
    }

    private void wantUpTo999(int number) {
        if (number < 1 || number > 999) {
            throw new IllegalArgumentException("not 1 to 999");
        }
    }

    private static int orNone(int delay) {
        return delay == NEVER ? NONE : delay;
    }

    private static int upperPart(int upper, int lower) {
        int divisor = commonDivisor(upper, lower);
        return lower == 0 || divisor == 0 ? 0 : upper / divisor;
    }

    private static int lowerPart(int upper, int lower) {
        int divisor = commonDivisor(upper, lower);
        return lower == 0 || divisor == 0 ? 1 : lower / divisor;
    }

    /** Of 0 and n it is n, so that 0 by n becomes 0 by 1. */
    private static int commonDivisor(int one, int other) {
        int a = one;
        int b = other;
        for (int steps = 0; steps < 64 && b != 0; steps++) {
            int rest = a % b;
            a = b;
            b = rest;
        }
        return a;
    }

    private static int keptTo(int number, int least, int most) {
        return Math.max(least, Math.min(most, number));
    }

    // ==== the language

    /** Every word that stands for something, and of which rules it is a value. */
    private enum Word {
        POOL("pool", 0, 0),
        DEEP("deep", 0, 0),
        GLARE("glare", VALUE_GLARE, IN_NEEDS | IN_TROUBLE),
        SWIMMER("swimmer", 0, 0),
        CHAIR("chair", 0, 0),
        LOOK("look", 0, 0),
        LAST("last", 0, 0),
        TIRE("tire", 0, 0),
        CASE("case", 0, 0),
        NEEDS("needs", 0, 0),
        TROUBLE("trouble", 0, 0),
        GAME("game", 0, 0),
        FUN("fun", 0, 0),
        OR("or", 0, 0),
        AND("and", 0, 0),
        NOT("not", 0, 0),
        DEPTH("depth", VALUE_DEPTH, IN_NEEDS | IN_TROUBLE),
        FAR("far", VALUE_FAR, IN_NEEDS | IN_TROUBLE),
        CROWD("crowd", VALUE_CROWD, IN_NEEDS | IN_TROUBLE),
        TIRED("tired", VALUE_TIRED, IN_NEEDS),
        SKILL("skill", VALUE_SKILL, IN_TROUBLE),
        LEGS("legs", VALUE_LEGS, IN_GAME),
        MOUTH("mouth", VALUE_MOUTH, IN_GAME),
        WAVES("waves", VALUE_WAVES, IN_GAME),
        SCREAMS("screams", VALUE_SCREAMS, IN_GAME);

        final String letters;
        final int value;
        final int rules;

        Word(String letters, int value, int rules) {
            this.letters = letters;
            this.value = value;
            this.rules = rules;
        }

        boolean isSpelt(byte[] text, int from, int to) {
            if (letters.length() != to - from || from < 0 || to > text.length) {
                return false;
            }
            for (int i = 0; i < letters.length(); i++) {
                if (text[from + i] != letters.charAt(i)) {
                    return false;
                }
            }
            return true;
        }
    }

    /** The token at which a text is being read. */
    private static final class Tokens {
        private byte[] text = new byte[0];
        private int length = 0;
        private int end = 0;
        int start = 0;
        int kind = TOKEN_END;
        Word word = null;
        int number = 0;
        int sign = 0;

        void begin(byte[] bytes, int size) {
            text = bytes;
            length = Math.min(size, bytes.length);
            end = 0;
            advance();
        }

        void advance() {
            start = end;
            while (start < length && (text[start] == 32 || text[start] == 10)) {
                start++;
            }
            end = start;
            word = null;
            if (start >= length) {
                kind = TOKEN_END;
            } else if (isLetter(text[start])) {
                readWord();
            } else if (isDigit(text[start])) {
                readNumber();
            } else {
                sign = text[start];
                kind = isSignByte(sign) ? TOKEN_SIGN : TOKEN_BAD;
                end = start + 1;
            }
        }

        private void readWord() {
            kind = TOKEN_WORD;
            while (end < length && isLetter(text[end])) {
                end++;
            }
            for (int i = 0; i < WORDS.length && word == null; i++) {
                if (WORDS[i].isSpelt(text, start, end)) {
                    word = WORDS[i];
                }
            }
        }

        /** A number of too many digits is told as one that is above all that may stand anywhere. */
        private void readNumber() {
            kind = TOKEN_NUMBER;
            number = 0;
            while (end < length && isDigit(text[end])) {
                number = end - start < 4 ? number * 10 + text[end] - '0' : MOST_NUMBER + 1;
                end++;
            }
        }

        boolean isWord(Word wanted) {
            return kind == TOKEN_WORD && word == wanted;
        }

        boolean isSign(char wanted) {
            return kind == TOKEN_SIGN && sign == wanted;
        }

        boolean mayBeginExpr() {
            return kind == TOKEN_WORD || kind == TOKEN_NUMBER || isSign('(');
        }

        private static boolean isLetter(int sign) {
            return sign >= 'a' && sign <= 'z';
        }

        private static boolean isDigit(int sign) {
            return sign >= '0' && sign <= '9';
        }

        private static boolean isSignByte(int sign) {
            return sign == ';' || sign == '(' || sign == ')' || sign == '+' || sign == '-'
                || sign == '*' || sign == '/' || sign == '<' || sign == '=';
        }
    }

    /** Reads a text into a pool of its own, so that a text with a fault leaves all as it is. */
    private static final class Parser {
        final Pool pool = new Pool();
        final Live live = new Live();
        int fault = 0;
        int place = NONE;
        private final Tokens tokens = new Tokens();
        private long deepTold = 0;
        private long glareTold = 0;
        private int onceTold = 0;
        private int ruleKind = 0;
        private int number = 0;
        private int spot = 0;

        boolean read(byte[] text, int length) {
            pool.clear();
            live.clear();
            fault = 0;
            place = NONE;
            deepTold = 0;
            glareTold = 0;
            onceTold = 0;
            tokens.begin(text, length);
            if (tokens.isWord(Word.POOL) && !readSize()) {
                return false;
            }
            for (int lines = 0; lines < MOST_BYTES && tokens.kind != TOKEN_END; lines++) {
                if (!readLine() || !pass(';')) {
                    return false;
                }
            }
            return true;
        }

        private boolean fail(int kind) {
            fault = kind;
            place = tokens.start;
            return false;
        }

        private boolean pass(char sign) {
            if (!tokens.isSign(sign)) {
                return fail(FAULT_PLACE);
            }
            tokens.advance();
            return true;
        }

        private boolean isNumber(int least, int most) {
            if (tokens.kind != TOKEN_NUMBER) {
                return fail(FAULT_PLACE);
            }
            number = tokens.number;
            return number >= least && number <= most || fail(FAULT_TOO_MUCH);
        }

        private boolean passNumber(int least, int most) {
            if (!isNumber(least, most)) {
                return false;
            }
            tokens.advance();
            return true;
        }

        /** The word of a line of which there may be so many. */
        private boolean passOneMore(int have, int most) {
            if (have >= most) {
                return fail(FAULT_TOO_MUCH);
            }
            tokens.advance();
            return true;
        }

        /** The word of a line that may be told but once. */
        private boolean passOnce(int told) {
            if ((onceTold & told) != 0) {
                return fail(FAULT_SECOND);
            }
            onceTold |= told;
            tokens.advance();
            return true;
        }

        private boolean passSpot(long told) {
            if (!isNumber(0, pool.width - 1)) {
                return false;
            }
            spot = number;
            tokens.advance();
            if (!isNumber(0, pool.height - 1)) {
                return false;
            }
            spot += pool.width * number;
            if ((told >>> spot & 1) != 0) {
                return fail(FAULT_TOLD_CELL);
            }
            tokens.advance();
            return true;
        }

        private boolean readSize() {
            tokens.advance();
            if (!passNumber(1, 8)) {
                return false;
            }
            pool.width = number;
            if (!passNumber(1, 5)) {
                return false;
            }
            pool.height = number;
            return pass(';');
        }

        private boolean readLine() {
            Word word = tokens.kind == TOKEN_WORD ? tokens.word : null;
            if (word == null) {
                return fail(FAULT_PLACE);
            }
            switch (word) {
                case DEEP: return readDeep();
                case GLARE: return readGlare();
                case SWIMMER: return readSwimmer();
                case CHAIR: return readChair();
                case LOOK: return readLook();
                case LAST: return readLast();
                case TIRE: return readTire();
                case CASE: return readCase();
                case NEEDS: return passOnce(TOLD_NEEDS) && readRule(NEEDS_RULE, IN_NEEDS);
                case TROUBLE: return passOnce(TOLD_TROUBLE) && readRule(TROUBLE_RULE, IN_TROUBLE);
                case GAME:
                    return passOneMore(pool.games, MOST_GAMES) && readRule(FIRST_GAME_RULE + pool.games, IN_GAME);
                default: return fail(FAULT_PLACE);
            }
        }

        private boolean readDeep() {
            tokens.advance();
            if (!passSpot(deepTold) || !passNumber(1, 9)) {
                return false;
            }
            deepTold |= 1L << spot;
            pool.depth[spot] = number;
            return true;
        }

        private boolean readGlare() {
            tokens.advance();
            if (!passSpot(glareTold) || !passNumber(0, 9)) {
                return false;
            }
            glareTold |= 1L << spot;
            pool.glare[spot] = number;
            return true;
        }

        private boolean readSwimmer() {
            if (!passOneMore(pool.swimmers, MOST_SWIMMERS) || !passSpot(0) || !passNumber(0, 9)) {
                return false;
            }
            live.at[pool.swimmers] = spot;
            pool.skill[pool.swimmers] = number;
            pool.swimmers++;
            return true;
        }

        private boolean readChair() {
            if (!passOnce(TOLD_CHAIR) || !passSpot(0)) {
                return false;
            }
            live.chair = spot;
            return true;
        }

        private boolean readLook() {
            if (!passOneMore(pool.looks, MOST_LOOKS) || !passSpot(0) || !passNumber(1, MOST_SECONDS)) {
                return false;
            }
            live.lookAt[pool.looks] = spot;
            live.lasting[pool.looks] = number;
            pool.looks++;
            return true;
        }

        private boolean readLast() {
            if (!passOnce(TOLD_LAST) || !passNumber(1, 300)) {
                return false;
            }
            pool.last = number;
            return true;
        }

        private boolean readTire() {
            if (!passOnce(TOLD_TIRE) || !passNumber(1, 99)) {
                return false;
            }
            pool.tire = number;
            return true;
        }

        private boolean readCase() {
            if (!passOneMore(pool.cases, MOST_CASES)) {
                return false;
            }
            for (int i = 0; i < 4; i++) {
                if (!passNumber(0, 9)) {
                    return false;
                }
                pool.seen[4 * pool.cases + i] = number;
            }
            if (!tokens.isWord(Word.TROUBLE) && !tokens.isWord(Word.FUN)) {
                return fail(FAULT_PLACE);
            }
            if (tokens.isWord(Word.TROUBLE)) {
                pool.troubles |= 1 << pool.cases;
            }
            pool.cases++;
            tokens.advance();
            return true;
        }

        private boolean readRule(int rule, int kind) {
            ruleKind = kind;
            pool.rules.open(rule);
            if (!readExpr(0)) {
                return false;
            }
            pool.rules.close(rule);
            if (kind == IN_GAME) {
                pool.games++;
            }
            return true;
        }

        private boolean readExpr(int within) {
            if (within >= MOST_NESTED) {
                return fail(tokens.mayBeginExpr() ? FAULT_TOO_MUCH : FAULT_PLACE);
            }
            if (!readAnd(within)) {
                return false;
            }
            for (int i = 0; i < MOST_BYTES && tokens.isWord(Word.OR); i++) {
                tokens.advance();
                if (!readAnd(within)) {
                    return false;
                }
                pool.rules.put(OP_OR);
            }
            return true;
        }

        private boolean readAnd(int within) {
            if (!readNot(within)) {
                return false;
            }
            for (int i = 0; i < MOST_BYTES && tokens.isWord(Word.AND); i++) {
                tokens.advance();
                if (!readNot(within)) {
                    return false;
                }
                pool.rules.put(OP_AND);
            }
            return true;
        }

        private boolean readNot(int within) {
            int nots = 0;
            while (nots < MOST_NOTS && tokens.isWord(Word.NOT)) {
                nots++;
                tokens.advance();
            }
            if (nots == MOST_NOTS && tokens.isWord(Word.NOT)) {
                return fail(FAULT_TOO_MUCH);
            }
            if (!readTest(within)) {
                return false;
            }
            for (int i = 0; i < nots; i++) {
                pool.rules.put(OP_NOT);
            }
            return true;
        }

        private boolean readTest(int within) {
            if (!readSum(within)) {
                return false;
            }
            if (!tokens.isSign('<') && !tokens.isSign('=')) {
                return true;
            }
            int op = tokens.isSign('<') ? OP_LESS : OP_SAME;
            tokens.advance();
            if (!readSum(within)) {
                return false;
            }
            pool.rules.put(op);
            return true;
        }

        private boolean readSum(int within) {
            if (!readProduct(within)) {
                return false;
            }
            for (int i = 0; i < MOST_BYTES && (tokens.isSign('+') || tokens.isSign('-')); i++) {
                int op = tokens.isSign('+') ? OP_PLUS : OP_MINUS;
                tokens.advance();
                if (!readProduct(within)) {
                    return false;
                }
                pool.rules.put(op);
            }
            return true;
        }

        private boolean readProduct(int within) {
            if (!readPart(within)) {
                return false;
            }
            for (int i = 0; i < MOST_BYTES && (tokens.isSign('*') || tokens.isSign('/')); i++) {
                int op = tokens.isSign('*') ? OP_TIMES : OP_BY;
                tokens.advance();
                if (!readPart(within)) {
                    return false;
                }
                pool.rules.put(op);
            }
            return true;
        }

        private boolean readPart(int within) {
            if (tokens.kind == TOKEN_NUMBER) {
                if (!passNumber(0, MOST_NUMBER)) {
                    return false;
                }
                pool.rules.put(number);
                return true;
            }
            if (tokens.kind != TOKEN_WORD) {
                return pass('(') && readExpr(within + 1) && pass(')');
            }
            Word word = tokens.word;
            if (word == null || (word.rules & ruleKind) == 0) {
                return fail(FAULT_NO_VALUE);
            }
            pool.rules.put(OP_VALUE - word.value);
            tokens.advance();
            return true;
        }
    }

    /** The rules of a text, each as numbers, values and signs in the order in which they are worked off. */
    private static final class Rules {
        private final int[] code = new int[MOST_BYTES];
        private int size = 0;
        private final int[] from = new int[FIRST_GAME_RULE + MOST_GAMES];
        private final int[] to = new int[FIRST_GAME_RULE + MOST_GAMES];
        private final int[] stack = new int[64];
        /** Without the word, minutes make no difference and need not be gone through. */
        boolean tellsTired = false;

        void clear() {
            size = 0;
            tellsTired = false;
            Arrays.fill(from, 0);
            Arrays.fill(to, 0);
        }

        void copy(Rules other) {
            size = other.size;
            tellsTired = other.tellsTired;
            System.arraycopy(other.code, 0, code, 0, other.size);
            System.arraycopy(other.from, 0, from, 0, from.length);
            System.arraycopy(other.to, 0, to, 0, to.length);
        }

        void open(int rule) {
            from[rule] = size;
        }

        void close(int rule) {
            to[rule] = size;
        }

        boolean has(int rule) {
            return from[rule] < to[rule];
        }

        void put(int op) {
            if (size < code.length) {
                code[size] = op;
                size++;
            }
            if (op == OP_VALUE - VALUE_TIRED) {
                tellsTired = true;
            }
        }

        int gives(int rule, int[] values) {
            int top = 0;
            for (int i = from[rule]; i < to[rule]; i++) {
                int op = code[i];
                if (op >= 0 || op <= OP_VALUE) {
                    if (top < stack.length) {
                        stack[top] = op >= 0 ? op : values[OP_VALUE - op];
                        top++;
                    }
                } else if (op == OP_NOT) {
                    if (top >= 1) {
                        stack[top - 1] = stack[top - 1] == 0 ? 1 : 0;
                    }
                } else if (top >= 2) {
                    stack[top - 2] = joined(op, stack[top - 2], stack[top - 1]);
                    top--;
                }
            }
            return top >= 1 ? stack[top - 1] : 0;
        }

        private static int joined(int op, int left, int right) {
            switch (op) {
                case OP_OR: return left != 0 || right != 0 ? 1 : 0;
                case OP_AND: return left != 0 && right != 0 ? 1 : 0;
                case OP_LESS: return left < right ? 1 : 0;
                case OP_SAME: return left == right ? 1 : 0;
                case OP_PLUS: return left + right;
                case OP_MINUS: return left - right;
                case OP_TIMES: return left * right;
                default: return right == 0 ? 0 : left / right;
            }
        }
    }

    // ==== the state

    /** What a text tells and no act changes. */
    private static final class Pool {
        int width = 8;
        int height = 5;
        final int[] depth = new int[MOST_CELLS];
        final int[] glare = new int[MOST_CELLS];
        int swimmers = 0;
        final int[] skill = new int[MOST_SWIMMERS];
        int looks = 0;
        int last = 60;
        int tire = 20;
        int games = 0;
        int cases = 0;
        final int[] seen = new int[4 * MOST_CASES];
        /** Bit i: case i was trouble. */
        int troubles = 0;
        final Rules rules = new Rules();

        Pool() {
            Arrays.fill(depth, 3);
        }

        void clear() {
            width = 8;
            height = 5;
            Arrays.fill(depth, 3);
            Arrays.fill(glare, 0);
            swimmers = 0;
            looks = 0;
            last = 60;
            tire = 20;
            games = 0;
            cases = 0;
            troubles = 0;
            rules.clear();
        }

        void copy(Pool other) {
            width = other.width;
            height = other.height;
            System.arraycopy(other.depth, 0, depth, 0, depth.length);
            System.arraycopy(other.glare, 0, glare, 0, glare.length);
            swimmers = other.swimmers;
            System.arraycopy(other.skill, 0, skill, 0, skill.length);
            looks = other.looks;
            last = other.last;
            tire = other.tire;
            games = other.games;
            cases = other.cases;
            System.arraycopy(other.seen, 0, seen, 0, seen.length);
            troubles = other.troubles;
            rules.copy(other.rules);
        }

        int cells() {
            return width * height;
        }

        boolean hasCell(int cell) {
            return cell >= 0 && cell < width * height;
        }

        boolean hasLook(int look) {
            return look >= 0 && look < looks;
        }

        int xOf(int cell) {
            return width < 1 ? 0 : cell % width;
        }

        int yOf(int cell) {
            return width < 1 ? 0 : cell / width;
        }

        int between(int one, int other) {
            return Math.abs(xOf(one) - xOf(other)) + Math.abs(yOf(one) - yOf(other));
        }
    }

    /** What acts, dummies and heads change, and an image keeps. */
    private static final class Live {
        final int[] at = new int[MOST_SWIMMERS];
        int chair = 0;
        final int[] lookAt = new int[MOST_LOOKS];
        final int[] lasting = new int[MOST_LOOKS];
        int minutes = 0;
        int acts = 0;
        /** Of each act three numbers: its kind, of what it is, and what undoes it. */
        private final int[] act = new int[3 * MOST_ACTS];
        int dummies = 0;
        final int[] measured = new int[MOST_DUMMIES];
        int heads = 0;
        final int[] headRow = new int[MOST_HEADS];
        final int[] headMany = new int[MOST_HEADS];

        void clear() {
            chair = 0;
            minutes = 0;
            acts = 0;
            dummies = 0;
            heads = 0;
        }

        void copy(Live other) {
            System.arraycopy(other.at, 0, at, 0, at.length);
            chair = other.chair;
            System.arraycopy(other.lookAt, 0, lookAt, 0, lookAt.length);
            System.arraycopy(other.lasting, 0, lasting, 0, lasting.length);
            minutes = other.minutes;
            acts = other.acts;
            System.arraycopy(other.act, 0, act, 0, act.length);
            dummies = other.dummies;
            System.arraycopy(other.measured, 0, measured, 0, measured.length);
            heads = other.heads;
            System.arraycopy(other.headRow, 0, headRow, 0, headRow.length);
            System.arraycopy(other.headMany, 0, headMany, 0, headMany.length);
        }

        void noteAct(int kind, int which, int was) {
            if (acts >= MOST_ACTS) {
                System.arraycopy(act, 3, act, 0, act.length - 3);
                acts = MOST_ACTS - 1;
            }
            act[3 * acts] = kind;
            act[3 * acts + 1] = which;
            act[3 * acts + 2] = was;
            acts++;
        }

        void takeBack() {
            if (acts < 1) {
                return;
            }
            acts--;
            int which = act[3 * acts + 1];
            int was = act[3 * acts + 2];
            switch (act[3 * acts]) {
                case ACT_SWIM: at[which] = was; break;
                case ACT_CHAIR: chair = was; break;
                case ACT_LASTS: lasting[which] = was; break;
                case ACT_CHANGE: changeOver(which, was); break;
                case ACT_MINUTES: minutes = was; break;
                default: break;
            }
        }

        void changeOver(int one, int other) {
            int cell = lookAt[one];
            lookAt[one] = lookAt[other];
            lookAt[other] = cell;
            int seconds = lasting[one];
            lasting[one] = lasting[other];
            lasting[other] = seconds;
        }

        int allMeasured() {
            int all = 0;
            for (int i = 0; i < dummies; i++) {
                all += measured[i];
            }
            return all;
        }

        int greatestMeasured() {
            int greatest = NONE;
            for (int i = 0; i < dummies; i++) {
                greatest = Math.max(greatest, measured[i]);
            }
            return greatest;
        }

        int measuredAbove(int limit) {
            int above = 0;
            for (int i = 0; i < dummies; i++) {
                if (measured[i] > limit) {
                    above++;
                }
            }
            return above;
        }
    }

    // ==== looking

    /** A round of looks, perhaps with a look at nowhere (NONE) in it. */
    private static final class Round {
        private final int[] cells = new int[MOST_LOOKS + 1];
        private final int[] seconds = new int[MOST_LOOKS + 1];
        private int size = 0;
        private final int[] cellOfSecond = new int[ROUND_SECONDS];
        private int gap = 0;
        private int firstGap = NONE;
        private int longestGap = 0;

        void empty() {
            size = 0;
        }

        /** A look of no seconds is none: it must not part the looks before and behind it. */
        void add(int cell, int lasting) {
            if (lasting > 0 && size < cells.length) {
                cells[size] = cell;
                seconds[size] = lasting;
                size++;
            }
        }

        /** The greatest delay, from the gaps between stretches that are long enough: the worst
            second is the first from which on what is left of a stretch is too short. */
        int longestDelay(int cell, int need) {
            int elsewhere = lookElsewhere(cell);
            if (elsewhere == NONE) {
                return size == 0 ? NEVER : need;
            }
            gap = 0;
            firstGap = NONE;
            longestGap = 0;
            int stretch = 0;
            int look = elsewhere;
            for (int i = 0; i < size; i++) {
                if (cells[look] == cell) {
                    stretch += seconds[look];
                } else {
                    endStretch(stretch, need);
                    stretch = 0;
                    gap += seconds[look];
                }
                look = look + 1 < size ? look + 1 : 0;
            }
            endStretch(stretch, need);
            if (firstGap == NONE) {
                return NEVER;
            }
            return Math.max(longestGap, gap + firstGap) + 2 * need - 1;
        }

        private int lookElsewhere(int cell) {
            for (int i = 0; i < size; i++) {
                if (cells[i] != cell) {
                    return i;
                }
            }
            return NONE;
        }

        private void endStretch(int stretch, int need) {
            if (stretch < need) {
                gap += stretch;
                return;
            }
            if (firstGap == NONE) {
                firstGap = gap;
            } else {
                longestGap = Math.max(longestGap, gap);
            }
            gap = 0;
        }

        /** Goes back from so far behind the round that what comes after it makes no difference. */
        void fillDelays(int cell, int need, int[] delays) {
            int length = spread();
            if (length == 0) {
                return;
            }
            int stretch = 0;
            int delay = NEVER;
            for (int second = 2 * length + MOST_NEED; second >= 0; second--) {
                stretch = cellOfSecond[second % length] == cell ? stretch + 1 : 0;
                if (stretch >= need) {
                    delay = need;
                } else if (delay != NEVER) {
                    delay++;
                }
                if (second < length && second < delays.length) {
                    delays[second] = delay;
                }
            }
        }

        private int spread() {
            int length = 0;
            for (int look = 0; look < size; look++) {
                for (int i = 0; i < seconds[look] && length < cellOfSecond.length; i++) {
                    cellOfSecond[length] = cells[look];
                    length++;
                }
            }
            return length;
        }
    }

    /** Answers what the pool, its swimmers and the round together come to. */
    private static final class Watch {
        final Pool pool = new Pool();
        final Live live = new Live();
        private final Round round = new Round();
        private final Round otherRound = new Round();
        private final int[] values = new int[VALUES];
        private final int[] spots = new int[MOST_SWIMMERS];
        private final int[] needs = new int[MOST_SWIMMERS];
        private int spotCount = 0;
        private final int[] delays = new int[ROUND_SECONDS];
        private final int[] tried = new int[MOST_LOOKS];

        // ---- counts

        int roundSeconds() {
            int seconds = 0;
            for (int look = 0; look < pool.looks; look++) {
                seconds += live.lasting[look];
            }
            return seconds;
        }

        int cellsLookedAt() {
            long cells = 0;
            for (int look = 0; look < pool.looks; look++) {
                cells |= 1L << live.lookAt[look];
            }
            return Long.bitCount(cells);
        }

        int whoIsIn(int cell) {
            int who = 0;
            for (int i = 0; i < pool.swimmers; i++) {
                if (live.at[i] == cell) {
                    who |= 1 << i;
                }
            }
            return who;
        }

        // ---- what rules give

        int needNow(int cell) {
            return needOf(cell, live.chair, live.minutes, 0);
        }

        private int needOf(int cell, int chair, int minutes, int extra) {
            int far = pool.between(cell, chair);
            if (!pool.rules.has(NEEDS_RULE)) {
                return keptTo(1 + far / 3 + pool.glare[cell], 1, MOST_NEED);
            }
            values[VALUE_DEPTH] = pool.depth[cell];
            values[VALUE_GLARE] = pool.glare[cell];
            values[VALUE_FAR] = far;
            values[VALUE_CROWD] = Integer.bitCount(whoIsIn(cell)) + extra;
            values[VALUE_TIRED] = pool.tire < 1 ? 0 : minutes / pool.tire;
            return keptTo(pool.rules.gives(NEEDS_RULE, values), 1, MOST_NEED);
        }

        int weight(int swimmer) {
            if (!pool.rules.has(TROUBLE_RULE)) {
                return 10 - pool.skill[swimmer];
            }
            int cell = live.at[swimmer];
            values[VALUE_SKILL] = pool.skill[swimmer];
            values[VALUE_DEPTH] = pool.depth[cell];
            values[VALUE_GLARE] = pool.glare[cell];
            values[VALUE_FAR] = pool.between(cell, live.chair);
            values[VALUE_CROWD] = Integer.bitCount(whoIsIn(cell));
            return keptTo(pool.rules.gives(TROUBLE_RULE, values), 0, 99);
        }

        int allWeights() {
            int all = 0;
            for (int i = 0; i < pool.swimmers; i++) {
                all += weight(i);
            }
            return all;
        }

        private boolean saysFun(int game, int number) {
            for (int i = 0; i < 4; i++) {
                values[VALUE_LEGS + i] = pool.seen[4 * number + i];
            }
            return pool.rules.gives(FIRST_GAME_RULE + game, values) != 0;
        }

        int wrongCases(int game, boolean missed) {
            int wrong = 0;
            for (int i = 0; i < pool.cases; i++) {
                boolean wasTrouble = (pool.troubles >>> i & 1) != 0;
                if (wasTrouble == missed && saysFun(game, i) == missed) {
                    wrong++;
                }
            }
            return wrong;
        }

        int bestGame() {
            int best = NONE;
            int least = 0;
            for (int game = 0; game < pool.games; game++) {
                int costs = 3 * wrongCases(game, true) + wrongCases(game, false);
                if (best == NONE || costs < least) {
                    best = game;
                    least = costs;
                }
            }
            return best;
        }

        // ---- the worst

        private void takeRound() {
            takeRoundBut(NONE);
        }

        private void takeRoundBut(int left) {
            round.empty();
            for (int look = 0; look < pool.looks; look++) {
                if (look != left) {
                    round.add(live.lookAt[look], live.lasting[look]);
                }
            }
        }

        /** Who is where and what is needed there is the same for every round that is tried. */
        private void gather(int chair, int minutes, int extra) {
            spotCount = 0;
            long taken = 0;
            for (int i = 0; i < pool.swimmers; i++) {
                int cell = live.at[i];
                if ((taken >>> cell & 1) == 0) {
                    taken |= 1L << cell;
                    spots[spotCount] = cell;
                    needs[spotCount] = needOf(cell, chair, minutes, extra);
                    spotCount++;
                }
            }
        }

        private int worstOfRound() {
            int worst = 0;
            for (int i = 0; i < spotCount; i++) {
                worst = Math.max(worst, round.longestDelay(spots[i], needs[i]));
            }
            return worst;
        }

        int worstNow() {
            gather(live.chair, live.minutes, 0);
            takeRound();
            return worstOfRound();
        }

        int worstCell() {
            int worst = worstNow();
            int least = NONE;
            for (int i = 0; i < spotCount; i++) {
                if (round.longestDelay(spots[i], needs[i]) == worst && (least == NONE || spots[i] < least)) {
                    least = spots[i];
                }
            }
            return least;
        }

        int worstOfCell(int cell) {
            takeRound();
            return round.longestDelay(cell, needNow(cell));
        }

        int worstWithout(int look) {
            gather(live.chair, live.minutes, 0);
            takeRoundBut(look);
            return worstOfRound();
        }

        int worstFrom(int chair) {
            gather(chair, live.minutes, 0);
            takeRound();
            return worstOfRound();
        }

        long blindCells() {
            takeRound();
            long blind = 0;
            for (int cell = 0; cell < pool.cells(); cell++) {
                if (round.longestDelay(cell, needNow(cell)) == NEVER) {
                    blind |= 1L << cell;
                }
            }
            return blind;
        }

        // ---- delays of single seconds

        /** Only as many of the row stand as the round has seconds. */
        void takeDelays(int cell, int[] row) {
            takeRound();
            round.fillDelays(cell, needOf(cell, live.chair, live.minutes, 0), row);
        }

        int delayFrom(int cell, int second) {
            takeDelays(cell, delays);
            return second < 0 || second >= delays.length ? NEVER : delays[second];
        }

        int unseen(int cell) {
            takeDelays(cell, delays);
            int seconds = roundSeconds();
            int unseen = 0;
            for (int i = 0; i < seconds && i < delays.length; i++) {
                if (delays[i] > pool.last) {
                    unseen++;
                }
            }
            return unseen;
        }

        int lateWeights() {
            int late = 0;
            for (int i = 0; i < pool.swimmers; i++) {
                late += weight(i) * unseen(live.at[i]);
            }
            return late;
        }

        // ---- what is best

        int bestOrder(int[] row) {
            gather(live.chair, live.minutes, 0);
            for (int i = 0; i < pool.looks; i++) {
                tried[i] = i;
            }
            int least = worstInOrder();
            System.arraycopy(tried, 0, row, 0, pool.looks);
            for (int tries = 1; tries < ORDERS && nextOrder(); tries++) {
                int worst = worstInOrder();
                if (worst < least) {
                    least = worst;
                    System.arraycopy(tried, 0, row, 0, pool.looks);
                }
            }
            return least;
        }

        private int worstInOrder() {
            round.empty();
            for (int i = 0; i < pool.looks; i++) {
                round.add(live.lookAt[tried[i]], live.lasting[tried[i]]);
            }
            return worstOfRound();
        }

        /** The next row, as rows are ordered, that leaves look 0 in its place. */
        private boolean nextOrder() {
            int end = pool.looks - 1;
            int rise = end - 1;
            while (rise >= 1 && tried[rise] > tried[rise + 1]) {
                rise--;
            }
            if (rise < 1) {
                return false;
            }
            int above = end;
            while (above > rise && tried[above] < tried[rise]) {
                above--;
            }
            swapTried(rise, above);
            for (int low = rise + 1, high = end; low < high; low++, high--) {
                swapTried(low, high);
            }
            return true;
        }

        private void swapTried(int one, int other) {
            int look = tried[one];
            tried[one] = tried[other];
            tried[other] = look;
        }

        /** Two bits of a counter for each look, the highest for look 0, give rows in their order. */
        int bestLengths(int[] row) {
            gather(live.chair, live.minutes, 0);
            int least = NEVER;
            int best = 0;
            int rows = 1 << 2 * Math.min(pool.looks, LOOKS_TO_LENGTHEN);
            for (int lengths = 0; lengths < rows; lengths++) {
                round.empty();
                for (int i = 0; i < pool.looks; i++) {
                    round.add(live.lookAt[i], lengthOf(lengths, i));
                }
                int worst = worstOfRound();
                if (worst < least) {
                    least = worst;
                    best = lengths;
                }
            }
            for (int i = 0; i < pool.looks; i++) {
                row[i] = lengthOf(best, i);
            }
            return least;
        }

        private int lengthOf(int lengths, int look) {
            return 1 + (lengths >>> 2 * (pool.looks - 1 - look) & 3);
        }

        int bestChair() {
            int best = 0;
            int least = NEVER;
            for (int chair = 0; chair < pool.cells(); chair++) {
                int worst = worstFrom(chair);
                if (worst < least) {
                    least = worst;
                    best = chair;
                }
            }
            return best;
        }

        int longestAway(int behind) {
            gather(live.chair, live.minutes, 0);
            for (int away = MOST_AWAY; away >= 0; away--) {
                round.empty();
                for (int look = 0; look < pool.looks; look++) {
                    round.add(live.lookAt[look], live.lasting[look]);
                    if (look == behind) {
                        round.add(NONE, away);
                    }
                }
                if (worstOfRound() <= pool.last) {
                    return away;
                }
            }
            return NONE;
        }

        int lastMinute() {
            takeRound();
            int step = pool.rules.tellsTired ? Math.max(1, pool.tire) : MOST_MINUTES + 1;
            for (int minutes = 0; minutes <= MOST_MINUTES; minutes += step) {
                gather(live.chair, minutes, 0);
                if (worstOfRound() > pool.last) {
                    return minutes == 0 ? NONE : minutes - 1;
                }
            }
            return MOST_MINUTES;
        }

        int mostExtra() {
            takeRound();
            for (int extra = 0; extra <= MOST_EXTRA; extra++) {
                gather(live.chair, live.minutes, extra);
                if (worstOfRound() > pool.last) {
                    return extra == 0 ? NONE : extra - 1;
                }
            }
            return MOST_EXTRA;
        }

        // ---- two who share it

        int worstOfHalves(int x) {
            gather(live.chair, live.minutes, 0);
            round.empty();
            otherRound.empty();
            for (int look = 0; look < pool.looks; look++) {
                halfOf(live.lookAt[look], x).add(live.lookAt[look], live.lasting[look]);
            }
            int worst = 0;
            for (int i = 0; i < spotCount; i++) {
                worst = Math.max(worst, halfOf(spots[i], x).longestDelay(spots[i], needs[i]));
            }
            return worst;
        }

        private Round halfOf(int cell, int x) {
            return pool.xOf(cell) < x ? round : otherRound;
        }

        int bestHalves() {
            int best = NONE;
            int least = 0;
            for (int x = 1; x < pool.width; x++) {
                int worst = worstOfHalves(x);
                if (best == NONE || worst < least) {
                    best = x;
                    least = worst;
                }
            }
            return best;
        }

        int worstOfBoth() {
            int seconds = roundSeconds();
            gather(live.chair, live.minutes, 0);
            if (seconds == 0) {
                return spotCount == 0 ? 0 : NEVER;
            }
            int worst = 0;
            for (int i = 0; i < spotCount; i++) {
                takeDelays(spots[i], delays);
                for (int second = 0; second < seconds && second < delays.length; second++) {
                    int later = delays[(second + seconds / 2) % seconds];
                    worst = Math.max(worst, Math.min(delays[second], later));
                }
            }
            return worst;
        }
    }

    /** So many troubles as a seed draws them. */
    private static final class Week {
        int together = 0;
        int late = 0;
        int greatest = 0;
        private int seed = 0;
        private final int[][] delays = new int[MOST_SWIMMERS][ROUND_SECONDS];
        private final int[] weights = new int[MOST_SWIMMERS];

        void live(Watch watch, int firstSeed, int times) {
            together = 0;
            late = 0;
            greatest = 0;
            seed = firstSeed;
            int seconds = watch.roundSeconds();
            int swimmers = watch.pool.swimmers;
            int all = 0;
            for (int i = 0; i < swimmers; i++) {
                weights[i] = watch.weight(i);
                all += weights[i];
                watch.takeDelays(watch.live.at[i], delays[i]);
            }
            if (all == 0) {
                return;
            }
            for (int i = 0; i < times; i++) {
                int swimmer = whoIs(draw(all), swimmers);
                note(seconds == 0 ? NEVER : delays[swimmer][draw(seconds)], watch.pool.last);
            }
        }

        private int draw(int n) {
            seed = seed * 1103515245 + 12345;
            return n < 1 ? 0 : (seed >>> 16 & 32767) % n;
        }

        private int whoIs(int drawn, int swimmers) {
            int rest = drawn;
            for (int i = 0; i < swimmers; i++) {
                if (rest < weights[i]) {
                    return i;
                }
                rest -= weights[i];
            }
            return 0;
        }

        private void note(int delay, int last) {
            if (delay > last) {
                late++;
            }
            int counted = Math.min(delay, last);
            together += counted;
            greatest = Math.max(greatest, counted);
        }
    }

    /** Sets of swimmers who aren't there: rows of cells don't touch each other, so each is counted alone. */
    private static final class Missing {
        int sets = 0;
        int fewest = 0;
        int inAll = 0;

        void find(Pool pool, Live live) {
            sets = 1;
            fewest = 0;
            inAll = 0;
            for (int y = 0; y < pool.height && sets > 0; y++) {
                findInRow(swimmersIn(pool, live, y), live, y);
            }
            if (sets == 0) {
                fewest = NONE;
                inAll = 0;
            }
        }

        private static int swimmersIn(Pool pool, Live live, int y) {
            int who = 0;
            for (int i = 0; i < pool.swimmers; i++) {
                if (pool.yOf(live.at[i]) == y) {
                    who |= 1 << i;
                }
            }
            return who;
        }

        private void findInRow(int who, Live live, int y) {
            int in = Integer.bitCount(who);
            int told = NONE;
            for (int i = 0; i < live.heads; i++) {
                if (live.headRow[i] == y) {
                    if (told != NONE && told != live.headMany[i]) {
                        sets = 0;
                        return;
                    }
                    told = live.headMany[i];
                }
            }
            if (told == NONE) {
                sets *= 1 << in;
                return;
            }
            sets *= ways(in, told);
            fewest |= lowestBits(who, in - told);
            if (told == 0) {
                inAll |= who;
            }
        }

        private static int ways(int of, int taken) {
            if (taken > of) {
                return 0;
            }
            int ways = 1;
            for (int i = 0; i < taken; i++) {
                ways = ways * (of - i) / (i + 1);
            }
            return ways;
        }

        private static int lowestBits(int bits, int many) {
            int rest = bits;
            int low = 0;
            for (int i = 0; i < many && rest != 0; i++) {
                int bit = rest & -rest;
                low |= bit;
                rest ^= bit;
            }
            return low;
        }
    }
}
