import java.util.ArrayList;
import java.util.List;

/** Boundary cases of near ones, hearsay, chances, rests, years and what is kept (promises 31 to 37, 39 to 44). */
public final class EdgesOfOthersTest {
    private static final int LEAST = -2147483648;
    private static final int MOST = 2147483647;

    public static void main(String[] args) {
        sharesOfNoneToThirty();
        sharesOfFewerHearses();
        sharesTheLeastRow();
        sharesWithoutEndedOnes();
        strangersOnOneCell();
        strangersOfAsNearOnes();
        strangersNone();
        doubtsOfTwo();
        doubtsOfNone();
        heardOfEachKind();
        heardRefused();
        heardNoMoreThanEight();
        forgetsAll();
        fitsAllOrNone();
        rainsRefused();
        rainsOfNoneAndAll();
        rainsInLowestTerms();
        restsRefused();
        restsOfAll();
        yearsRefused();
        yearsWithoutMourners();
        yearsOfOneMourner();
        keepOfThree();
        againRefused();
        againBringsAllBack();
        countsOfAll();
        countOfAnother();
        rowNoneSuch();
        Due.end();
    }

    // ---- promises 31 to 33

    private static void sharesOfNoneToThirty() {
        BehindAnotherHearse x = Due.scene("..............................", "28", "0a", "");
        for (int v : new int[] {LEAST, -1, 31, MOST}) {
            Due.is("shares(" + v + ")", x.shares(v), -1);
            Due.is("no ROW", x.count(11), 0);
        }
        for (int v = 0; v <= 30; v++) {
            Due.is("28 CELLS apart: shares(" + v + ")", x.shares(v), v < 28 ? 0 : 1);
            Due.row("28 CELLS apart: shares(" + v + ")", x, v < 28 ? -1 : 0);
        }
        BehindAnotherHearse y = Due.scene("..........", "4", "5a;3a;4a", "");
        Due.is("on its CELL", y.shares(0), 1);
        Due.row("on its CELL", y, -1, -1, 0);
        Due.is("one apart, ahead or behind", y.shares(1), 1);
        Due.row("of as many the least row", y, -1, -1, 0);
    }

    private static void sharesOfFewerHearses() {
        BehindAnotherHearse x = Due.scene("..........", "0;1;2;3;4;5", "0a;0a;0a;0a;0a;0a;0a;0a", "");
        Due.is("each to another one: six of eight", x.shares(30), 6);
        Due.row("each to another one: six of eight", x, -1, -1, 0, 1, 2, 3, 4, 5);
        Due.is("three are near", x.shares(2), 3);
        Due.row("three are near", x, -1, -1, -1, -1, -1, 0, 1, 2);
        BehindAnotherHearse y = Due.scene("..........", "0;1;2", "", "");
        Due.is("no MOURNERS", y.shares(30), 0);
        Due.row("no MOURNERS", y);
        Due.avenue(x, "..........");
        Due.hearses(x, "0;1;2;3;4;5");
        for (int mourners = 0; mourners < 7; mourners++) {
            Due.is("fewer than there were: " + mourners, x.shares(30), mourners);
            Due.mourners(x, "0a");
        }
        BehindAnotherHearse z = Due.scene("....", "2", "2a;1a", "3");
        z.steps(1);
        Due.mourners(z, "0a");
        Due.is("no hearse is on THE AVENUE", z.shares(30), 0);
        Due.row("no hearse is on THE AVENUE", z, -1, -1, -1);
    }

    private static void sharesTheLeastRow() {
        BehindAnotherHearse x = Due.scene("............", "2;4;6", "3a;5a;4a", "");
        Due.is("all three", x.shares(1), 3);
        Due.row("all three: the least row", x, 0, 2, 1);
        Due.is("all three, two CELLS", x.shares(2), 3);
        Due.row("all three, two CELLS: the least row", x, 0, 1, 2);
        BehindAnotherHearse y = Due.scene("............", "2;4", "2a;4a;3a", "");
        Due.is("two of three", y.shares(1), 2);
        Due.row("NONE is less than each hearse", y, -1, 1, 0);
    }

    private static void sharesWithoutEndedOnes() {
        BehindAnotherHearse x = Due.scene("......", "3;0", "3a;0b", "i=0");
        x.steps(2);
        Due.is("one has ENDED", x.count(5), 1);
        Due.is("the other alone", x.shares(30), 1);
        Due.row("the other alone", x, -1, 1);
    }

    private static void strangersOnOneCell() {
        BehindAnotherHearse x = Due.scene("..............................", "0;1", "0a;28b", "");
        Due.is("the farthest", x.strangers(), 28);
        Due.row("the farthest", x, 0, 1);
        Due.mourners(x, "28a");
        Due.is("on one CELL", x.strangers(), 0);
        Due.row("the lesser first", x, 1, 2);
    }

    private static void strangersOfAsNearOnes() {
        BehindAnotherHearse x = Due.scene("............", "0;1", "2a;8a;7b;3b;1b", "");
        Due.is("of as near ones the least row", x.strangers(), 1);
        Due.row("of as near ones the least row", x, 0, 3);
        BehindAnotherHearse y = Due.scene("............", "0;1;2", "5a;5a;6b;6a;7c", "");
        Due.is("like OWN ones are no strangers", y.strangers(), 0);
        Due.row("the third and the fourth", y, 2, 3);
    }

    private static void strangersNone() {
        BehindAnotherHearse x = new BehindAnotherHearse();
        Due.is("no MOURNERS", x.strangers(), -2);
        BehindAnotherHearse y = Due.scene("......", "3;0", "3a", "i=0");
        Due.is("one mourner", y.strangers(), -2);
        Due.mourners(y, "2a");
        Due.is("like OWN ones", y.strangers(), -2);
        Due.is("no ROW", y.count(11), 0);
        Due.mourners(y, "0b");
        Due.is("two of them", y.strangers(), 2);
        y.steps(2);
        Due.is("two have ENDED", y.count(5), 2);
        Due.is("one alone", y.strangers(), -2);
        BehindAnotherHearse z = Due.scene("....", "0;1", "0a;0a;0a;0a;0a;0a;0a;0a", "");
        Due.is("eight of like OWN ones", z.strangers(), -2);
        BehindAnotherHearse w = Due.scene("....", "0;1", "0a;0a;0a;0a;0a;0a;0a;1b", "");
        Due.is("the eighth", w.strangers(), 1);
        Due.row("the eighth", w, 0, 7);
    }

    private static void doubtsOfTwo() {
        BehindAnotherHearse x = Due.scene("..............................", "0;28", "14a;13a;15a;14b;0a;28a;14a;14b", "");
        Due.is("as near, the farthest", x.doubts(), 1 + 8 + 64 + 128);
        Due.row("as near, the farthest", x, 4);
        Due.hearses(x, "14");
        Due.is("one nearer", x.doubts(), 0);
        Due.row("one nearer", x, 0);
        Due.hearses(x, "12");
        Due.is("14 and 12", x.doubts(), 2);
        Due.row("14 and 12", x, 1);
    }

    private static void doubtsOfNone() {
        BehindAnotherHearse x = Due.scene("......", "2", "2a;0a;4a", "3");
        Due.is("one hearse", x.doubts(), 0);
        Due.row("one hearse", x, 0);
        x.steps(1);
        Due.mourners(x, "0a");
        Due.is("none on THE AVENUE", x.doubts(), 0);
        // hearse 0 has ARRIVED: the other one is alone, however far
        BehindAnotherHearse y = Due.scene("......", "4;0", "2a", "i=0");
        Due.is("as near", y.doubts(), 1);
        y.steps(1);
        Due.is("one has ARRIVED", y.doubts(), 0);
        Due.row("one has ARRIVED", y, 0);
    }

    // ---- promises 34 to 36

    private static void heardOfEachKind() {
        int[][] edges = {{0, 0}, {0, 8}, {1, 1}, {1, 6}, {2, 0}, {2, 8}, {3, 0}, {3, 1}};
        BehindAnotherHearse x = new BehindAnotherHearse();
        for (int k = 0; k < edges.length; k++) {
            Due.is("heard(" + edges[k][0] + ", " + edges[k][1] + ")", x.heard(edges[k][0], edges[k][1]), k + 1);
            Due.is("what was heard", x.count(9), k + 1);
        }
        // six hearses that ARRIVE as 1 .. 6, eight mourners at the first of them
        BehindAnotherHearse y = Due.scene("........", "6;5;4;3;2;1", "6a;6a;6a;6a;6a;6a;6a;6a", "1");
        for (int m = 0; m < 8; m++) {
            y.turnsTo(m);
        }
        for (int v = 0; v <= 8; v++) {
            fits(y, 0, v, v == 0 ? 63 : 1);
            fits(y, 2, v, v == 0 ? 63 : 1);
            if (v >= 1 && v <= 6) {
                fits(y, 1, v, 1 << v - 1);
            }
        }
        fits(y, 3, 0, 21);
        fits(y, 3, 1, 42);
    }

    private static void fits(BehindAnotherHearse x, int what, int v, int want) {
        Due.is("heard", x.heard(what, v), 1);
        Due.is("fits of " + what + ", " + v, x.fits(), want);
        Due.row("fits of " + what + ", " + v, x, Integer.bitCount(want));
        Due.is("forget", x.forget(), 1);
    }

    private static void heardRefused() {
        BehindAnotherHearse x = new BehindAnotherHearse();
        for (int v : new int[] {LEAST, -1, 9, MOST}) {
            Due.is("heard(0, " + v + ")", x.heard(0, v), -1);
            Due.is("heard(2, " + v + ")", x.heard(2, v), -1);
        }
        for (int v : new int[] {LEAST, -1, 0, 7, MOST}) {
            Due.is("heard(1, " + v + ")", x.heard(1, v), -1);
        }
        for (int v : new int[] {LEAST, -1, 2, MOST}) {
            Due.is("heard(3, " + v + ")", x.heard(3, v), -1);
        }
        for (int what : new int[] {LEAST, -1, 4, MOST}) {
            Due.is("heard(" + what + ", 1)", x.heard(what, 1), -1);
        }
        Due.is("nothing was heard", x.count(9), 0);
    }

    private static void heardNoMoreThanEight() {
        BehindAnotherHearse x = Due.scene("......", "3;0", "", "1");
        for (int k = 1; k <= 8; k++) {
            Due.is("heard: " + k, x.heard(0, 0), k);
        }
        Due.is("a ninth", x.heard(3, 1), -1);
        Due.is("it does not count", x.fits(), 3);
        Due.is("eight", x.count(9), 8);
        Due.is("forgotten", x.forget(), 8);
        Due.is("the first again", x.heard(3, 1), 1);
        Due.is("it counts", x.fits(), 2);
    }

    private static void forgetsAll() {
        BehindAnotherHearse x = Due.scene("......", "3;0", "", "1");
        Due.is("nothing was heard", x.forget(), 0);
        x.heard(3, 1);
        x.heard(3, 0);
        Due.is("two", x.forget(), 2);
        Due.is("none is left", x.count(9), 0);
        Due.is("all fit again", x.fits(), 3);
        Due.is("none more", x.forget(), 0);
    }

    private static void fitsAllOrNone() {
        BehindAnotherHearse x = new BehindAnotherHearse();
        Due.is("no HEARSES", x.fits(), 0);
        Due.row("no HEARSES", x, 0);
        BehindAnotherHearse y = Due.scene("........", "0;1;2;3;4;5", "", "0");
        Due.is("nothing was heard: all six", y.fits(), 63);
        Due.row("nothing was heard: all six", y, 6);
        y.heard(3, 0);
        y.heard(3, 1);
        Due.is("even and odd: none", y.fits(), 0);
        Due.row("even and odd: none", y, 0);
        y.forget();
        y.heard(1, 1);
        Due.is("none ARRIVES", y.fits(), 0);
        Due.rule(y, "1");
        Due.is("now one does", y.fits(), 32);
        y.steps(60);
        Due.is("one that has ARRIVED", y.fits(), 32);
        Due.row("one that has ARRIVED", y, 1);
    }

    // ---- promises 37, 39, 40

    private static void rainsRefused() {
        BehindAnotherHearse x = new BehindAnotherHearse();
        for (int n : new int[] {LEAST, -1, 0, 13, MOST}) {
            Due.is("n " + n, x.rains(n, 0, 0), -1);
        }
        for (int k : new int[] {LEAST, -1, 13, MOST}) {
            Due.is("k " + k, x.rains(12, k, 0), -1);
        }
        for (int p : new int[] {LEAST, -1, 11, MOST}) {
            Due.is("p " + p, x.rains(12, 0, p), -1);
        }
        Due.is("no ROW", x.count(11), 0);
    }

    private static void rainsOfNoneAndAll() {
        BehindAnotherHearse x = new BehindAnotherHearse();
        for (int n = 1; n <= 12; n++) {
            for (int k = 0; k <= 12; k++) {
                x.rains(n, k, 0);
                Due.row("it never rains: 0 by 1", x, 0, 1);
                x.rains(n, k, 10);
                Due.row("it rains ever, " + k + " of " + n, x, k <= n ? 1 : 0, 1);
            }
            x = new BehindAnotherHearse();
        }
        for (int k = 0; k <= 1; k++) {
            x.rains(12, k, 3);
            Due.row("the first one is one", x, 3, 10);
        }
        x.rains(12, 12, 1);
        Due.row("all twelve by a tenth", x, 1, 1000000000000L);
        x.rains(12, 12, 9);
        Due.row("all twelve by nine tenths", x, 282429536481L, 1000000000000L);
    }

    /** Each of the n STEPS is wet or dry: all ways are counted one by one. */
    private static void rainsInLowestTerms() {
        for (int n = 1; n <= 7; n++) {
            for (int k = 0; k <= 8; k++) {
                BehindAnotherHearse x = new BehindAnotherHearse();
                for (int p = 0; p <= 10; p++) {
                    long upper = 0;
                    long lower = 1;
                    for (int i = 0; i < n; i++) {
                        lower *= 10;
                    }
                    for (int wet = 1; wet < 1 << n; wet += 2) {
                        long chance = Integer.bitCount(wet) >= k ? 1 : 0;
                        for (int i = 0; i < n; i++) {
                            chance *= (wet >> i & 1) == 1 ? p : 10 - p;
                        }
                        upper += chance;
                    }
                    for (long d = 2; d <= 5; d += 3) {
                        while (upper % d == 0 && lower % d == 0 && upper > 0) {
                            upper /= d;
                            lower /= d;
                        }
                    }
                    Due.is("rains(" + n + ", " + k + ", " + p + ")", x.rains(n, k, p), 0);
                    Due.row("rains(" + n + ", " + k + ", " + p + ")", x, upper, upper == 0 ? 1 : lower);
                }
            }
        }
    }

    private static void restsRefused() {
        BehindAnotherHearse x = new BehindAnotherHearse();
        for (int v : new int[] {LEAST, -1, 21, MOST}) {
            Due.is("rests(" + v + ")", x.rests(v), -1);
        }
        Due.is("no ROW", x.count(11), 0);
    }

    private static int has(int mine, int its, int v) {
        int[] prizes = {0, v / 2, v};
        return prizes[Integer.compare(mine, its) + 1] - mine - (mine > its + its ? 3 : 0);
    }

    private static void restsOfAll() {
        int withNone = 0;
        BehindAnotherHearse b = new BehindAnotherHearse();
        for (int v = 0; v <= 20; v++) {
            List<int[]> pairs = new ArrayList<>();
            for (int x = 0; x <= 9; x++) {
                for (int y = 0; y <= 9; y++) {
                    boolean rest = true;
                    for (int z = 0; z <= 9; z++) {
                        rest = rest && has(z, y, v) <= has(x, y, v) && has(z, x, v) <= has(y, x, v);
                    }
                    if (rest) {
                        pairs.add(new int[] {x, y});
                    }
                }
            }
            b.right();
            Due.is("rests(" + v + ")", b.rests(v), pairs.size());
            if (pairs.isEmpty()) {
                withNone++;
                Due.row("nothing without: rests(" + v + ")", b);
            } else {
                Due.row("the least: rests(" + v + ")", b, pairs.get(0)[0], pairs.get(0)[1]);
            }
        }
        Due.is("there are v without a pair", withNone > 0, true);
    }

    private static void yearsRefused() {
        BehindAnotherHearse x = Due.scene("......", "0", "0a", "1");
        for (int n : new int[] {LEAST, -1, 0, 61, MOST}) {
            Due.is("years(1, " + n + ")", x.years(1, n), -1);
        }
        Due.is("no ROW", x.count(11), 0);
    }

    private static void yearsWithoutMourners() {
        for (int seed : new int[] {0, 1, -1, LEAST, MOST, 65536}) {
            BehindAnotherHearse x = Due.scene("..............................", "0", "", "1");
            int r = seed;
            int steps = 0;
            for (int n = 1; n <= 60; n++) {
                r = r * 1103515245 + 12345;
                steps += Integer.remainderUnsigned(Integer.divideUnsigned(r, 65536), 4) < 2 ? 1 : 0;
                Due.is("one DRAW each: years(" + seed + ", " + n + ")", x.years(seed, n), steps >= 29 ? 1 : 0);
            }
            Due.row("no MOURNERS", x, 0, 0);
        }
    }

    /** One mourner far ahead, its OWN far behind: the CELLS that it is pushed show when a hearse ARRIVES with it. */
    private static void yearsOfOneMourner() {
        int ended = 0;
        for (int seed = -40; seed <= 40; seed++) {
            BehindAnotherHearse x = Due.scene("............", "0;9", "4a", "1");
            BehindAnotherHearse y = Due.scene("............", "0;9", "4a", "1");
            int r = seed;
            for (int n = 1; n <= 20; n++) {
                r = r * 1103515245 + 12345;
                int lot = (r >>> 16) % 4;
                if (lot < 2) {
                    y.steps(1);
                } else {
                    r = r * 1103515245 + 12345;
                    if (lot == 2) {
                        y.turnsTo(0);
                    } else {
                        r = r * 1103515245 + 12345;
                        y.pushes(0, (r >>> 16) % 5 - 2);
                    }
                }
                Due.is("years(" + seed + ", " + n + ")", x.years(seed, n), y.count(4));
                Due.row("years(" + seed + ", " + n + ")", x, y.count(5), y.count(6));
            }
            ended += y.count(5);
            Due.is("nothing has changed", x.count(3) + x.count(10) + x.mourner(0, 0), 4);
        }
        Due.is("some have ENDED", ended > 0, true);
    }

    // ---- promises 41 to 44

    private static void keepOfThree() {
        BehindAnotherHearse x = new BehindAnotherHearse();
        for (int i : new int[] {LEAST, -1, 3, MOST}) {
            Due.is("keep(" + i + ")", x.keep(i), false);
            Due.is("again(" + i + ")", x.again(i), false);
        }
        for (int i = 0; i < 3; i++) {
            Due.is("nothing kept under " + i, x.again(i), false);
            x.steps(1);
            Due.is("keep(" + i + ")", x.keep(i), true);
        }
        for (int i = 0; i < 3; i++) {
            Due.is("again(" + i + ")", x.again(i), true);
            Due.is("each as it was: " + i, x.count(3), i + 1);
        }
        Due.is("kept anew", x.keep(0) && x.again(0), true);
        Due.is("as it was then", x.count(3), 3);
    }

    private static void againRefused() {
        BehindAnotherHearse x = Due.scene("..........", "0;4", "4a;0b", "1");
        x.keep(0);
        x.steps(2);
        Due.is("nothing kept", x.again(1), false);
        Due.hearses(x, "");
        Due.mourners(x, "");
        Due.hearses(x, "4;4");
        Due.mourners(x, "4c");
        Due.is("what was refused did not come", x.again(0), true);
        x.steps(2);
        Due.hearses(x, "9;8");
        Due.is("nor a LINE ahead of one that can't", x.again(0), true);
        Due.hearses(x, "8");
        Due.is("a hearse came since", x.again(0), false);
        x.keep(0);
        Due.is("kept since", x.again(0), true);
        x.steps(1);
        Due.mourners(x, "8c");
        Due.is("a mourner came since", x.again(0), false);
        Due.is("all is as it was", x.count(3), 1);
        x.keep(2);
        Due.avenue(x, "..........");
        Due.hearses(x, "0;4;8");
        Due.mourners(x, "4a;0b;8c");
        Due.is("THE AVENUE came since", x.again(2) || x.again(0), false);
    }

    private static void againBringsAllBack() {
        BehindAnotherHearse x = Due.scene("......", "4;3;0", "4a;3b;0c;4c", "1");
        x.turnsTo(3);
        x.turnsTo(0);
        x.keep(1);
        x.steps(60);
        x.keep(2);
        Due.is("all have ARRIVED and ENDED", x.count(4) * 10 + x.count(5), 34);
        Due.is("again", x.again(1), true);
        Due.is("none has", x.count(4) * 10 + x.count(5) + x.count(6) + x.count(3) + x.count(10), 0);
        Due.is("their CELLS", x.hearse(0, 0) * 100 + x.hearse(1, 0) * 10 + x.hearse(2, 0), 430);
        Due.is("as which they ARRIVED", x.hearse(0, 1) + x.hearse(1, 1) + x.hearse(2, 1), 0);
        Due.is("who FOLLOWS", x.mourner(0, 2) * 100 + x.mourner(3, 2) * 10 + x.mourner(1, 2), 19);
        Due.is("not ENDED", x.mourner(0, 3) + x.mourner(1, 3) + x.mourner(2, 3) + x.mourner(3, 3), -4);
        Due.is("again", x.again(2), true);
        Due.is("all have ARRIVED and ENDED", x.count(4) * 10 + x.count(5), 34);
        Due.is("STEP", x.count(3), 60);
        Due.is("what can be undone is forgotten", x.undo(), -1);
    }

    private static void countsOfAll() {
        BehindAnotherHearse x = Due.scene("c".repeat(30), "10;11;12;13;14;15", "0a;0a;0a;0a;0a;0a;0a;0a", "3");
        Due.weather(x, "90");
        for (int k = 0; k < 9; k++) {
            x.heard(0, 0);
        }
        for (int k = 0; k < 20; k++) {
            x.steps(3);
        }
        x.shares(30);
        x.sign(0);
        Due.text(x, "1".repeat(80));
        int[] want = {30, 6, 8, 60, 6, 8, 0, 30, 9, 8, 15, 8, 80};
        want[6] = Integer.bitCount(x.hearse(0, 4));
        for (int what = 0; what < want.length; what++) {
            Due.is("count(" + what + ")", x.count(what), want[what]);
        }
        x.steps(1);
        Due.is("WEATHER of this STEP", x.count(8), 0);
    }

    private static void countOfAnother() {
        BehindAnotherHearse x = new BehindAnotherHearse();
        for (int what : new int[] {LEAST, -100, -2, -1, 13, 14, 100, MOST}) {
            Due.is("count(" + what + ")", x.count(what), -100);
        }
    }

    private static void rowNoneSuch() {
        BehindAnotherHearse x = Due.scene("..........", "0;1;2;3;4;5", "0a;0a;0a;0a;0a;0a;0a;0a", "0");
        for (int size = 0; size <= 8; size++) {
            tellRow(x, size);
            Due.is("numbers of the ROW", x.count(11), size);
            for (int i : new int[] {LEAST, -1, size, size + 1, 8, 9, MOST}) {
                Due.none("row(" + i + ") of " + size, () -> x.row(i));
            }
            for (int i = 0; i < size; i++) {
                Due.is("row(" + i + ") is there", x.row(i) >= -1, true);
            }
        }
    }

    /** A call that tells so many numbers. */
    private static void tellRow(BehindAnotherHearse x, int size) {
        if (size == 0) {
            x.rests(10);
        } else if (size == 1) {
            x.doubts();
        } else if (size == 2) {
            x.right();
        } else if (size < 7) {
            Due.avenue(x, "..........");
            Due.hearses(x, "0;1;2;3;4;5".substring(0, 2 * size - 1));
            x.line();
        } else {
            Due.mourners(x, size == 7 ? "0a;0a;0a;0a;0a;0a;0a" : "0a");
            x.shares(0);
        }
    }
}
