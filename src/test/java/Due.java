import java.util.NoSuchElementException;

/** What the project's tests share: texts are told sign by sign, answers that are not due are printed and counted. */
final class Due {
    private static int wrong = 0;
    private static int asked = 0;

    private Due() {
    }

    static void is(String call, long got, long want) {
        asked++;
        if (got != want) {
            wrong++;
            System.out.println(call + " answered " + got + ", due is " + want);
        }
    }

    static void is(String call, boolean got, boolean want) {
        is(call, got ? 1 : 0, want ? 1 : 0);
    }

    /** The whole ROW, its size too. */
    static void row(String call, BehindAnotherHearse x, long... want) {
        is(call + ": numbers of the ROW", x.count(11), want.length);
        for (int i = 0; i < want.length && i < x.count(11); i++) {
            is(call + ": row(" + i + ")", x.row(i), want[i]);
        }
    }

    /** A call that is to throw NoSuchElementException. */
    interface Call {
        void make();
    }

    static void none(String call, Call made) {
        int thrown = 0;
        try {
            made.make();
        } catch (NoSuchElementException e) {
            thrown = 1;
        }
        is(call + " throws NoSuchElementException", thrown, 1);
    }

    /** THE TEXT is this, whatever it was. */
    static void text(BehindAnotherHearse x, String text) {
        x.end(0);
        for (int i = 0; i < text.length(); i += 4) {
            int v = 0;
            for (int k = 0; k < 4; k++) {
                v = v << 8 | (i + k < text.length() ? text.charAt(i + k) & 255 : 0);
            }
            x.sign(v);
        }
        x.end(text.length());
    }

    static int avenue(BehindAnotherHearse x, String text) {
        text(x, text);
        return x.avenue();
    }

    static int hearses(BehindAnotherHearse x, String text) {
        text(x, text);
        return x.hearses();
    }

    static int mourners(BehindAnotherHearse x, String text) {
        text(x, text);
        return x.mourners();
    }

    static int weather(BehindAnotherHearse x, String text) {
        text(x, text);
        return x.weather();
    }

    static int rule(BehindAnotherHearse x, String text) {
        text(x, text);
        return x.rule();
    }

    static int hour(BehindAnotherHearse x, String text) {
        text(x, text);
        return x.hour();
    }

    static int law(BehindAnotherHearse x, String text) {
        text(x, text);
        return x.law();
    }

    /** A new object with all of this told; a text that can't stand counts as wrong. */
    static BehindAnotherHearse scene(String avenue, String hearses, String mourners, String rule) {
        BehindAnotherHearse x = new BehindAnotherHearse();
        is("avenue " + avenue, avenue(x, avenue), avenue.length());
        is("hearses " + hearses + " stand", hearses(x, hearses) >= 0, true);
        is("mourners " + mourners + " stand", mourners(x, mourners) >= 0, true);
        is("rule " + rule, rule(x, rule), 0);
        return x;
    }

    static void end() {
        System.out.println(wrong == 0 ? asked + " answers are as due" : wrong + " of " + asked + " answers are not as due");
        if (wrong != 0) {
            System.exit(1);
        }
    }
}
