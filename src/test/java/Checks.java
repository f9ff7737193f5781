import java.nio.charset.StandardCharsets;

/** What the project's tests share: a count of wrong answers, and texts fed as numbers. */
class Checks {
    static final String NO_SUCH = "NoSuchElementException";
    static final String ILLEGAL = "IllegalArgumentException";

    private final String test;
    private int wrong = 0;
    private int made = 0;
    /** What the checks that follow are about; stands before what each of them says. */
    private String about = "";

    Checks(String test) {
        this.test = test;
    }

    interface Call {
        long answer();
    }

    void about(String what) {
        about = what.isEmpty() ? "" : what + ": ";
    }

    int made() {
        return made;
    }

    void due(String what, long want, long got) {
        made++;
        if (got != want) {
            wrong++;
            System.out.println(test + ": " + about + what + " answered " + got + ", due is " + want);
        }
    }

    void due(String what, boolean want, boolean got) {
        due(what, want ? 1 : 0, got ? 1 : 0);
    }

    /** The call must throw an exception of exactly this simple name. */
    void dueThrow(String what, String name, Call call) {
        made++;
        String got = "nothing";
        try {
            call.answer();
        } catch (RuntimeException e) {
            got = e.getClass().getSimpleName();
        }
        if (!got.equals(name)) {
            wrong++;
            System.out.println(test + ": " + about + what + " threw " + got + ", due is " + name);
        }
    }

    void end() {
        System.out.println(test + ": " + made + " checks, " + wrong + " wrong");
        if (wrong != 0 || made == 0) {
            System.exit(1);
        }
    }

    /** Feeds the text (blanks fill the last twenty bytes), and answers what lanes() does. */
    static int tell(LaneEyes eyes, String text) {
        return tell(eyes, text.getBytes(StandardCharsets.ISO_8859_1));
    }

    static int tell(LaneEyes eyes, byte[] text) {
        feed(eyes, text);
        return eyes.lanes(text.length);
    }

    static void feed(LaneEyes eyes, byte[] text) {
        for (int at = 0; at < text.length; at += 20) {
            eyes.feed(number(text, at), number(text, at + 4), number(text, at + 8),
                number(text, at + 12), number(text, at + 16));
        }
    }

    private static int number(byte[] text, int at) {
        int number = 0;
        for (int i = at; i < at + 4; i++) {
            number = number << 8 | (i < text.length ? text[i] & 255 : 32);
        }
        return number;
    }

    static LaneEyes told(String text) {
        LaneEyes eyes = new LaneEyes();
        int fault = tell(eyes, text);
        if (fault != 0) {
            throw new IllegalStateException("fault " + fault + " at " + eyes.fault() + " of " + text);
        }
        return eyes;
    }
}
