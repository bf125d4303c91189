/** Promises 31 to 44: near ones, whose it was, chances, laws, rests, years, and what is kept. */
public final class OthersTest {
    public static void main(String[] args) {
        shares();
        strangers();
        doubts();
        heard();
        rains();
        law();
        rests();
        years();
        kept();
        counts();
        Due.end();
    }

    private static void shares() {
        BehindAnotherHearse x = Due.scene("..........", "2;5", "2a;2b;5a;3b", "1");
        Due.is("shares(-1)", x.shares(-1), -1);
        Due.is("shares(31)", x.shares(31), -1);
        Due.is("shares(0)", x.shares(0), 2);
        Due.row("NONE is the least", x, -1, 0, 1, -1);
        Due.is("shares(30)", x.shares(30), 2);
        Due.row("the last ones", x, -1, -1, 0, 1);
        Due.is("shares(2)", x.shares(2), 2);
        Due.row("what can't be changed", x, -1, -1, 1, 0);
        // mourner 0 must give way, so that both have one
        BehindAnotherHearse y = Due.scene("..........", "1;3;7", "2a;0b;7c", "i=2");
        Due.is("both", y.shares(1), 3);
        Due.row("both", y, 1, 0, 2);
        y.steps(2);
        Due.is("who has ENDED, and what has ARRIVED, are left out", y.shares(30), 2);
        Due.row("who has ENDED, and what has ARRIVED, are left out", y, 0, 1, -1);
        Due.is("none", Due.scene("....", "", "", "").shares(3), 0);
    }

    private static void strangers() {
        BehindAnotherHearse x = Due.scene("..........", "0;8", "2a;2a;5b;4b;2a", "i=1");
        Due.is("strangers", x.strangers(), 2);
        Due.row("of as near ones the least row", x, 0, 3);
        x.pushes(4, 3);
        Due.is("the nearest", x.strangers(), 0);
        Due.row("the nearest", x, 2, 4);
        BehindAnotherHearse y = Due.scene("..........", "7;0", "6a;6b;0a", "i=0");
        y.steps(1);
        Due.is("two at one CELL", y.strangers(), 0);
        y.pushes(1, -9);
        y.turnsTo(1);
        y.steps(1);
        Due.is("one has ENDED", y.count(5), 1);
        Due.is("the others", y.strangers(), 0);
        Due.row("the others", y, 1, 2);
        BehindAnotherHearse z = Due.scene("..........", "7;0", "6a;5a", "");
        Due.is("none", z.strangers(), -2);
        Due.is("the ROW stays", z.count(11), 0);
    }

    private static void doubts() {
        BehindAnotherHearse x = Due.scene("..........", "2;6;7", "4a;3a;2b;6a;0a;4b", "1");
        Due.is("doubts", x.doubts(), 33);
        Due.row("doubts", x, 2);
        x.steps(60);
        Due.is("no hearse, no doubt", x.doubts(), 0);
        Due.row("no hearse, no doubt", x, 0);
        BehindAnotherHearse y = Due.scene("..........", "2;4;6", "4a;5a;3a;4b", "");
        Due.is("two, and one nearer", y.doubts(), 6);
        Due.row("two, and one nearer", y, 2);
        // mourner 0 ENDED on CELL 7, between the hearses on 6 and 8
        BehindAnotherHearse z = Due.scene("..........", "7;3;5", "7a", "1+(i=2)*(t=2)");
        z.steps(2);
        Due.is("ENDED", z.mourner(0, 3) * 10 + z.mourner(0, 0), 8);
        z.swaps(1, 2);
        Due.is("not in doubt", z.doubts(), 0);
        BehindAnotherHearse w = Due.scene("..........", "5;2;0", "5a", "3*(i=0)");
        w.steps(2);
        Due.is("ENDED on CELL 7", w.mourner(0, 3) * 10 + w.mourner(0, 0), 7);
        Due.rule(w, "3*(i=1)+3*(i=2)");
        w.steps(1);
        Due.is("on 5 and 3", w.hearse(1, 0) * 10 + w.hearse(2, 0), 53);
        Due.hearses(w, "8;6");
        Due.is("one that has ENDED is asked, too", w.doubts(), 1);
    }

    private static void heard() {
        BehindAnotherHearse x = Due.scene("........", "1;5;0", "0b;0a;6a;6b", "1");
        Due.is("heard(1, 6)", x.heard(1, 6) + x.heard(0, 8) + x.heard(2, 8), 6);
        Due.is("all are forgotten", x.forget(), 3);
        int[][] refused = {{0, -1}, {0, 9}, {1, 0}, {1, 7}, {2, -1}, {2, 9}, {3, -1}, {3, 2}, {-1, 0}, {4, 0}};
        for (int[] one : refused) {
            Due.is("heard(" + one[0] + ", " + one[1] + ")", x.heard(one[0], one[1]), -1);
        }
        Due.is("nothing was heard", x.forget(), 0);
        Due.is("all fit", x.fits(), 7);
        Due.row("all fit", x, 3);
        int[][] what = {{0, 0, 7}, {0, 2, 3}, {0, 3, 0}, {1, 1, 2}, {1, 2, 1}, {1, 3, 4}, {1, 4, 0}, {2, 0, 7}, {2, 1, 6},
            {2, 2, 6}, {2, 3, 0}, {3, 0, 5}, {3, 1, 2}};
        for (int[] one : what) {
            Due.is("heard", x.heard(one[0], one[1]), 1);
            Due.is("fits " + one[0] + " " + one[1], x.fits(), one[2]);
            Due.row("fits " + one[0] + " " + one[1], x, Integer.bitCount(one[2]));
            Due.is("forget", x.forget(), 1);
        }
        x.heard(2, 2);
        Due.is("how many such", x.heard(3, 0), 2);
        Due.is("all that was heard", x.fits(), 4);
        x.steps(60);
        Due.is("by what has been, too", x.fits(), 4);
        for (int k = 3; k <= 8; k++) {
            Due.is("how many such", x.heard(0, 0), k);
        }
        Due.is("eight are enough", x.heard(0, 0), -1);
        Due.is("what was heard", x.count(9), 8);
        Due.avenue(x, "....");
        Due.is("avenue() leaves it", x.count(9), 8);
        Due.is("no HEARSES", x.fits(), 0);
        Due.is("forget", x.forget(), 8);
        Due.is("forget", x.forget(), 0);
    }

    private static void chance(int n, int k, int p, long upper, long lower) {
        BehindAnotherHearse x = new BehindAnotherHearse();
        String call = "rains(" + n + ", " + k + ", " + p + ")";
        Due.is(call, x.rains(n, k, p), 0);
        Due.row(call, x, upper, lower);
    }

    private static void rains() {
        chance(1, 0, 3, 3, 10);
        chance(1, 1, 3, 3, 10);
        chance(1, 2, 3, 0, 1);
        chance(3, 2, 3, 153, 1000);
        chance(2, 2, 5, 1, 4);
        chance(12, 12, 5, 1, 4096);
        chance(12, 12, 3, 531441, 1000000000000L);
        chance(12, 0, 10, 1, 1);
        chance(12, 12, 10, 1, 1);
        chance(12, 0, 0, 0, 1);
        chance(4, 5, 10, 0, 1);
        chance(12, 1, 7, 7, 10);
        int[][] refused = {{0, 0, 0}, {13, 0, 0}, {1, -1, 0}, {1, 13, 0}, {1, 0, -1}, {1, 0, 11}};
        for (int[] one : refused) {
            Due.is("refused", new BehindAnotherHearse().rains(one[0], one[1], one[2]), -1);
        }
    }

    private static void law() {
        BehindAnotherHearse x = Due.scene("........", "1;5", "0a", "0");
        Due.is("better", Due.law(x, "1"), 1);
        Due.row("better", x, 1, 0);
        Due.is("THE RULE stays", x.hearse(0, 2), 0);
        Due.rule(x, "1");
        Due.is("worse", Due.law(x, "0"), -1);
        Due.row("worse", x, 0, 1);
        Due.is("none", Due.law(x, ""), 0);
        Due.row("none", x, 1, 1);
        Due.is("a fault", Due.law(x, "z"), -10000);
        Due.is("a fault", Due.law(x, "p+"), -10002);
        Due.is("too long", Due.law(x, "1+".repeat(20) + "1"), -10040);
        Due.row("the ROW stays", x, 1, 1);
        Due.is("THE TEXT is empty", x.count(12), 0);
        Due.is("THE RULE stays", x.hearse(0, 2), 1);
        Due.is("nothing has changed", x.count(3), 0);
    }

    private static void rests() {
        BehindAnotherHearse x = new BehindAnotherHearse();
        Due.is("rests(-1)", x.rests(-1), -1);
        Due.is("rests(21)", x.rests(21), -1);
        Due.is("rests(0)", x.rests(0), 1);
        Due.row("rests(0)", x, 0, 0);
        Due.is("rests(1)", x.rests(1), 1);
        Due.row("rests(1)", x, 0, 0);
        Due.is("rests(20)", x.rests(20), 1);
        Due.row("rests(20)", x, 9, 9);
        // 10: none rests (of like ones each would be faster by 1, a slower one goes to 0, and then 1 is enough)
        Due.is("rests(10)", x.rests(10), 0);
        Due.row("nothing without", x);
    }

    /** Without mourners a DRAW of 4 alone is made each time, and 0 or 1 is a STEP. */
    private static void years() {
        int[] seeds = {0, 1, 12345, -7, 2147483647, -2147483648};
        for (int seed : seeds) {
            int r = seed;
            int steps = 0;
            BehindAnotherHearse x = Due.scene("...............", "0", "", "1");
            for (int n = 1; n <= 60; n++) {
                r = r * 1103515245 + 12345;
                steps += (r >>> 16) % 4 < 2 ? 1 : 0;
                Due.is("years(" + seed + ", " + n + ")", x.years(seed, n), steps >= 14 ? 1 : 0);
                Due.row("years(" + seed + ", " + n + ")", x, 0, 0);
            }
            Due.is("nothing has changed", x.count(3) * 10 + x.count(10), 0);
            Due.is("years(1, 0)", x.years(1, 0), -1);
            Due.is("years(1, 61)", x.years(1, 61), -1);
        }
        // One mourner: a DRAW of 1 more for a turn, a DRAW of 1 and a DRAW of 5 more for a push.
        for (int seed : seeds) {
            int r = seed;
            int steps = 0;
            BehindAnotherHearse x = Due.scene("...............", "0", "0a", "1");
            for (int n = 1; n <= 60; n++) {
                r = r * 1103515245 + 12345;
                int lot = (r >>> 16) % 4;
                steps += lot < 2 ? 1 : 0;
                for (int more = 2; more <= lot; more++) {
                    r = r * 1103515245 + 12345;
                }
                Due.is("years(" + seed + ", " + n + ") with one", x.years(seed, n), steps >= 14 ? 1 : 0);
                Due.row("years(" + seed + ", " + n + ") with one", x, steps >= 14 ? 1 : 0, steps >= 14 ? 1 : 0);
            }
        }
        BehindAnotherHearse y = Due.scene("......", "3;1", "3a;1a;1b", "2");
        Due.is("all ARRIVED", y.years(5, 60), 2);
        Due.is("all ENDED", y.row(0), 3);
    }

    private static void kept() {
        BehindAnotherHearse x = Due.scene("..........", "0;4", "4a;0b", "1");
        Due.is("keep(3)", x.keep(3), false);
        Due.is("keep(-1)", x.keep(-1), false);
        Due.is("nothing kept", x.again(0), false);
        Due.is("again(3)", x.again(3), false);
        Due.is("again(-1)", x.again(-1), false);
        x.steps(2);
        Due.is("keep(0)", x.keep(0), true);
        x.steps(60);
        Due.is("keep(2)", x.keep(2), true);
        Due.is("what can be undone", x.count(10), 2);
        Due.is("again(1)", x.again(1), false);
        Due.is("a refused one forgets nothing", x.count(10), 2);
        Due.is("again(0)", x.again(0), true);
        Due.is("it is as it was", x.count(3) * 1000 + x.count(4) * 100 + x.hearse(0, 0) * 10 + x.hearse(1, 0), 2026);
        Due.is("it FOLLOWS as it did", x.mourner(0, 2), 1);
        Due.is("again() forgets what can be undone", x.count(10), 0);
        x.steps(1);
        Due.is("again(0) again", x.again(0), true);
        Due.is("it is as it was", x.count(3), 2);
        Due.is("again(2)", x.again(2), true);
        Due.is("it is as it was", x.count(4) * 10 + x.count(5), 22);
        x.keep(2);
        x.again(0);
        x.keep(2);
        x.steps(5);
        x.again(2);
        Due.is("kept anew", x.count(3), 2);
        Due.mourners(x, "9b");
        Due.is("a refused text is nothing", x.again(0), true);
        Due.mourners(x, "8b");
        Due.is("MOURNERS came since", x.again(0), false);
        x.keep(1);
        Due.is("kept since", x.again(1), true);
        Due.hearses(x, "8");
        Due.is("HEARSES came since", x.again(1), false);
        x.keep(1);
        Due.avenue(x, "....");
        Due.is("nothing is kept", x.again(1), false);
        for (int i = 0; i < 3; i++) {
            x.keep(i);
        }
        Due.avenue(x, "....");
        for (int i = 0; i < 3; i++) {
            Due.is("nothing is kept, though there are as many", x.again(i), false);
        }
        Due.rule(x, "2");
        Due.hearses(x, "0");
        x.keep(0);
        Due.rule(x, "3");
        Due.weather(x, "7");
        x.heard(0, 0);
        x.again(0);
        Due.is("rule, weather, hearsay are not brought back", x.hearse(0, 2) * 100 + x.count(8) * 10 + x.count(9), 371);
    }

    private static void counts() {
        BehindAnotherHearse x = Due.scene("..c..c..", "1;5", "0b;0a;6a;5b", "1");
        Due.weather(x, "59");
        x.heard(0, 0);
        x.steps(1);
        x.steps(2);
        x.sign(0);
        int[] want = {8, 2, 4, 3, 1, 2, 1, 2, 9, 1, 2, 2, 4};
        for (int what = 0; what < want.length; what++) {
            Due.is("count(" + what + ")", x.count(what), want[what]);
        }
        Due.is("count(13)", x.count(13), -100);
        Due.is("count(-1)", x.count(-1), -100);
        Due.none("row(-1)", () -> x.row(-1));
        Due.none("row(2)", () -> x.row(2));
        Due.is("row(1)", x.row(1), 0);
    }
}
