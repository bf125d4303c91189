import java.util.ArrayList;
import java.util.List;
import java.util.NoSuchElementException;

/**
 * Terms 2: refused calls change nothing but THE TEXT, the ROW stays with every number below 0 that tells why there is no
 * answer, questions change nothing, and calls that tell no ROW leave it.
 */
public final class RefusedTest {
    private static final int LEAST = -2147483648;
    private static final int MOST = 2147483647;
    private static final long THROWS = -999999;

    private interface Call {
        long on(BehindAnotherHearse x);
    }

    private record Named(String name, Call call, long want) {
    }

    private static final List<Named> CALLS = new ArrayList<>();

    public static void main(String[] args) {
        refusedByNumbers();
        refusedQuestions();
        refusedTexts();
        for (Named one : CALLS) {
            changesNothing(one, true);
        }
        textsThatAreFull();
        CALLS.clear();
        questions();
        for (Named one : CALLS) {
            changesNothing(one, false);
        }
        reasonsLeaveTheRow();
        rowIsLeft();
        Due.end();
    }

    private static void refused(String name, long want, Call call) {
        CALLS.add(new Named(name, call, want));
    }

    private static long answer(Named one, BehindAnotherHearse x) {
        try {
            return one.call.on(x);
        } catch (NoSuchElementException e) {
            return THROWS;
        }
    }

    /** The ROW of a question is another one, so both twins tell the same one behind it. */
    private static void changesNothing(Named one, boolean isRefused) {
        for (int kind = 0; kind < Twins.KINDS; kind++) {
            for (int way = 0; way < Twins.WAYS; way++) {
                BehindAnotherHearse x = Twins.build(kind);
                BehindAnotherHearse y = Twins.build(kind);
                String name = Twins.NAMES[kind] + ": " + one.name;
                long got = answer(one, x);
                if (isRefused) {
                    Due.is(name, got, one.want);
                } else {
                    Due.is("the same", x.line(), y.line());
                }
                Due.is(name + " leaves all as it was", Twins.looked(x, way).equals(Twins.looked(y, way)), true);
            }
        }
    }

    private static void refusedByNumbers() {
        for (int n : new int[] {-1, 81, LEAST, MOST}) {
            refused("end(" + n + ")", 0, x -> x.end(n) ? 1 : 0);
        }
        for (int h : new int[] {-1, 6, LEAST, MOST}) {
            refused("hearse(" + h + ", 0)", THROWS, x -> x.hearse(h, 0));
            refused("hearse(0, " + h + ")", THROWS, x -> x.hearse(0, h));
            refused("swaps(" + h + ", 0)", -1, x -> x.swaps(h, 0));
            refused("swaps(0, " + h + ")", -1, x -> x.swaps(0, h));
        }
        refused("swaps(0, 0)", -1, x -> x.swaps(0, 0));
        for (int m : new int[] {-1, 8, LEAST, MOST}) {
            refused("mourner(" + m + ", 0)", THROWS, x -> x.mourner(m, 0));
            refused("mourner(0, " + m + ")", THROWS, x -> x.mourner(0, m));
            refused("turnsTo(" + m + ")", -1, x -> x.turnsTo(m));
            refused("pushes(" + m + ", 1)", -1, x -> x.pushes(m, 1));
        }
        for (int v : new int[] {0, 10, -10, LEAST, MOST}) {
            refused("pushes(0, " + v + ")", -1, x -> x.pushes(0, v));
        }
        for (int kind : new int[] {-1, 4, LEAST, MOST}) {
            refused("sheet(" + kind + ", 1, 1, 1)", -1, x -> x.sheet(kind, 1, 1, 1));
            refused("sheet(" + kind + ", -1, 1, 1)", -1, x -> x.sheet(kind, -1, 1, 1));
        }
        for (int kind = 0; kind < 4; kind++) {
            int k = kind;
            refused("sheet(" + k + ", 9, 1, 1)", -1, x -> x.sheet(k, 9, 1, 1));
            refused("sheet(" + k + ", most, 1, 1)", -1, x -> x.sheet(k, MOST, 1, 1));
            if (k < 3) {
                refused("sheet(" + k + ", -1, 1, 1)", -2, x -> x.sheet(k, -1, 1, 1));
                refused("sheet(" + k + ", least, 1, 1)", -2, x -> x.sheet(k, LEAST, 1, 1));
            }
        }
        for (int n : new int[] {-1, 61, LEAST, MOST}) {
            refused("steps(" + n + ")", -1, x -> x.steps(n));
        }
        for (int i : new int[] {-1, 3, LEAST, MOST}) {
            refused("keep(" + i + ")", 0, x -> x.keep(i) ? 1 : 0);
            refused("again(" + i + ")", 0, x -> x.again(i) ? 1 : 0);
        }
        int[][] heard = {{-1, 0}, {4, 0}, {0, -1}, {0, 9}, {1, 0}, {1, 7}, {2, -1}, {2, 9}, {3, -1}, {3, 2}, {LEAST, 0}, {MOST, 0},
            {0, LEAST}, {1, MOST}, {2, MOST}, {3, LEAST}};
        for (int[] h : heard) {
            refused("heard(" + h[0] + ", " + h[1] + ")", -1, x -> x.heard(h[0], h[1]));
        }
    }

    private static void refusedQuestions() {
        for (int n : new int[] {-1, 100, LEAST, MOST}) {
            refused("ahead(" + n + ")", -1, x -> x.ahead(n));
        }
        for (int n : new int[] {0, 61, -1, LEAST, MOST}) {
            refused("jam(" + n + ")", -1, x -> x.jam(n));
            refused("years(1, " + n + ")", -1, x -> x.years(1, n));
        }
        for (int h : new int[] {-1, 6, LEAST, MOST}) {
            refused("arrives(" + h + ")", -1, x -> x.arrives(h));
            refused("passes(" + h + ", 0)", -1, x -> x.passes(h, 0));
            refused("passes(0, " + h + ")", -1, x -> x.passes(0, h));
        }
        refused("passes(0, 0)", -1, x -> x.passes(0, 0));
        for (int m : new int[] {-1, 8, LEAST, MOST}) {
            refused("ends(" + m + ")", -1, x -> x.ends(m));
            refused("stands(" + m + ")", -1, x -> x.stands(m));
            refused("when(" + m + ")", -1, x -> x.when(m));
        }
        for (int k : new int[] {-1, 9, LEAST, MOST}) {
            refused("mends(" + k + ")", -1, x -> x.mends(k));
        }
        for (int v : new int[] {-1, 31, LEAST, MOST}) {
            refused("shares(" + v + ")", -1, x -> x.shares(v));
        }
        int[][] rains = {{0, 0, 5}, {13, 0, 5}, {1, -1, 5}, {1, 13, 5}, {1, 0, -1}, {1, 0, 11}, {LEAST, 0, 5}, {MOST, 0, 5},
            {1, LEAST, 5}, {1, MOST, 5}, {1, 0, LEAST}, {1, 0, MOST}};
        for (int[] r : rains) {
            refused("rains(" + r[0] + ", " + r[1] + ", " + r[2] + ")", -1, x -> x.rains(r[0], r[1], r[2]));
        }
        for (int v : new int[] {-1, 21, LEAST, MOST}) {
            refused("rests(" + v + ")", -1, x -> x.rests(v));
        }
        for (int what : new int[] {-1, 13, LEAST, MOST}) {
            refused("count(" + what + ")", -100, x -> x.count(what));
        }
        for (int i : new int[] {-1, 8, LEAST, MOST}) {
            refused("row(" + i + ")", THROWS, x -> x.row(i));
        }
    }

    private static void refusedTexts() {
        Object[][] avenues = {{"", -1}, {"...", -4}, {"....x", -5}, {".".repeat(31), -31}, {"c".repeat(80), -31}};
        for (Object[] one : avenues) {
            refused("avenue " + one[0], (Integer) one[1], x -> Due.avenue(x, (String) one[0]));
        }
        Object[][] lines = {{"x", -1}, {";", -1}, {" 1", -1}, {"x".repeat(80), -1}};
        for (Object[] one : lines) {
            refused("hearses " + one[0], (Integer) one[1], x -> Due.hearses(x, (String) one[0]));
            refused("mourners " + one[0], (Integer) one[1], x -> Due.mourners(x, (String) one[0]));
        }
        Object[][] weathers = {{"", -1}, {"1x", -2}, {"7".repeat(21), -21}, {"7".repeat(80), -21}};
        for (Object[] one : weathers) {
            refused("weather " + one[0], (Integer) one[1], x -> Due.weather(x, (String) one[0]));
        }
        Object[][] rules = {{"z", 0}, {"3+", 2}, {"3*(2", 4}, {"3)", 1}, {"3=3=3", 3}, {"1234", 3}, {"((((((1", 4},
            {"3+".repeat(20), 40}, {"3+".repeat(40), 40}};
        for (Object[] one : rules) {
            refused("rule " + one[0], -1 - (Integer) one[1], x -> Due.rule(x, (String) one[0]));
            refused("law " + one[0], -10000 - (Integer) one[1], x -> Due.law(x, (String) one[0]));
        }
        Object[][] hours = {{"y", 0}, {"n", 1}, {"n1n", 3}, {"n1p00", 4}, {"n1".repeat(31), 60}, {"n1".repeat(40), 60}};
        for (Object[] one : hours) {
            refused("hour " + one[0], -1 - (Integer) one[1], x -> Due.hour(x, (String) one[0]));
        }
        refused("an empty text of HEARSES", 0, x -> Due.hearses(x, ""));
        refused("an empty text of MOURNERS", 0, x -> Due.mourners(x, ""));
    }

    /** A refused call leaves THE TEXT too, but for calls that read it. */
    private static void textsThatAreFull() {
        BehindAnotherHearse x = new BehindAnotherHearse();
        Due.text(x, "....".repeat(20));
        Due.is("the eighty-first sign", x.sign(0), -1);
        for (Named one : CALLS) {
            boolean readsIt = one.name.matches("(avenue|hearses|mourners|weather|rule|law|hour|an empty) .*");
            if (!readsIt) {
                Due.is(one.name, answer(one, x), one.want);
                Due.is(one.name + " leaves THE TEXT", x.count(12), 80);
            } else {
                BehindAnotherHearse y = new BehindAnotherHearse();
                answer(one, y);
                Due.is(one.name + " empties THE TEXT", y.count(12), 0);
            }
        }
        Due.is("as it was", x.end(4) ? x.avenue() : 0, 4);
    }

    private static void questions() {
        for (int n : new int[] {0, 1, 99}) {
            refused("ahead(" + n + ")", 0, x -> x.ahead(n));
        }
        for (int n : new int[] {1, 60}) {
            refused("jam(" + n + ")", 0, x -> x.jam(n));
            refused("years(3, " + n + ")", 0, x -> x.years(3, n));
        }
        for (int k = 0; k < 3; k++) {
            int n = k;
            refused("arrives(" + n + ")", 0, x -> x.arrives(n));
            refused("passes(" + n + ", 1)", 0, x -> x.passes(n, 1));
            refused("ends(" + n + ")", 0, x -> x.ends(n));
            refused("stands(" + n + ")", 0, x -> x.stands(n));
            refused("when(" + n + ")", 0, x -> x.when(n));
            refused("mends(" + n + ")", 0, x -> x.mends(n));
            refused("shares(" + n + ")", 0, x -> x.shares(n));
            refused("hearse(" + n + ", 2)", 0, x -> x.hearse(n, 2));
            refused("mourner(" + n + ", 4)", 0, x -> x.mourner(n, 4));
            refused("count(" + n + ")", 0, x -> x.count(n));
            refused("row(" + n + ")", 0, x -> x.row(n));
        }
        refused("line()", 0, x -> x.line());
        refused("right()", 0, x -> x.right());
        refused("order()", 0, x -> x.order());
        refused("misleads()", 0, x -> x.misleads());
        refused("crowd()", 0, x -> x.crowd());
        refused("strangers()", 0, x -> x.strangers());
        refused("doubts()", 0, x -> x.doubts());
        refused("fits()", 0, x -> x.fits());
        refused("rains(12, 3, 7)", 0, x -> x.rains(12, 3, 7));
        refused("rests(7)", 0, x -> x.rests(7));
        refused("law 3", 0, x -> Due.law(x, "3"));
        refused("law, none", 0, x -> Due.law(x, ""));
    }

    /** Numbers below 0 that tell why there is no answer: the ROW of line() stays. */
    private static void reasonsLeaveTheRow() {
        // hearse 0 has ARRIVED and mourner 0 ENDED there; hearses 1 and 2 stand still for ever
        BehindAnotherHearse x = Due.scene("..........", "7;3;1", "7a;3b;1a;1c", "i=0");
        x.steps(2);
        x.line();
        Object[][] reasons = {{"turnsTo(0), ENDED", x.turnsTo(0), -2}, {"turnsTo(1), FOLLOWS", x.turnsTo(1), -3},
            {"turnsTo(2), ARRIVED", x.turnsTo(2), -3}, {"pushes(0, 1), ENDED", x.pushes(0, 1), -2},
            {"swaps(0, 1)", x.swaps(0, 1), -2}, {"swaps(1, 0)", x.swaps(1, 0), -2}, {"arrives(1)", x.arrives(1), -2},
            {"passes(2, 1), in none", x.passes(2, 1), -2}, {"passes(1, 2), not behind", x.passes(1, 2), -2},
            {"passes(0, 1), ARRIVED", x.passes(0, 1), -2}, {"passes(1, 0), ARRIVED", x.passes(1, 0), -2},
            {"ends(1), nowhere", x.ends(1), -2}, {"stands(1), from none", x.stands(1), -2},
            {"stands(0), ENDED", x.stands(0), -2}, {"when(1), by none", x.when(1), -2}, {"mends(2)", x.mends(2), -2},
            {"sheet(0, -1, 0, 0)", x.sheet(0, -1, 0, 0), -2}, {"again(0)", x.again(0) ? 1 : -2, -2}};
        for (Object[] one : reasons) {
            Due.is((String) one[0], (Integer) one[1], (Integer) one[2]);
        }
        Due.row("-2, -3: the ROW stays", x, 1, 2);
        Due.is("nothing more can be undone", x.count(10), 1);
        Due.is("missing", x.sheet(3, 0, 0, 0), -3);
        Due.row("missing: the ROW stays", x, 1, 2);
        Due.rule(x, "3");
        x.steps(60);
        x.line();
        Due.is("misleads(): none on THE AVENUE", x.misleads(), -2);
        Due.is("strangers(): all have ENDED", x.strangers(), -2);
        Due.row("the empty ROW stays", x);
        BehindAnotherHearse y = new BehindAnotherHearse();
        y.rests(0);
        Due.is("misleads(): no HEARSES", y.misleads(), -2);
        Due.is("crowd(): no HEARSES", y.crowd(), -2);
        Due.is("strangers(): no MOURNERS", y.strangers(), -2);
        Due.is("mends(1): no MOURNERS", y.mends(1), -2);
        Due.is("undo(): none", y.undo(), -1);
        Due.row("the ROW stays", y, 0, 0);
        // a number below 0 that is meant as such comes with its ROW
        BehindAnotherHearse z = Due.scene("......", "3", "3a", "1");
        Due.is("law() below 0", Due.law(z, "0"), -1);
        Due.row("law() below 0", z, 0, 1);
    }

    /** The ROW is that of the latest call that tells one. */
    private static void rowIsLeft() {
        BehindAnotherHearse x = Due.scene("..........", "1;8", "0b;0a;6a", "1");
        x.line();
        x.turnsTo(0);
        x.pushes(1, 1);
        x.swaps(0, 1);
        x.undo();
        x.sheet(2, 2, 1, 1);
        x.heard(0, 0);
        x.forget();
        x.keep(0);
        x.again(0);
        x.count(3);
        x.hearse(0, 0);
        x.mourner(0, 0);
        x.sign(0);
        x.end(0);
        Due.hearses(x, "5");
        Due.hearses(x, "");
        Due.mourners(x, "5b");
        Due.mourners(x, "");
        Due.weather(x, "5");
        Due.rule(x, "2");
        Due.avenue(x, "....");
        Due.row("calls that tell no ROW leave it", x, 1, 0);
    }
}
