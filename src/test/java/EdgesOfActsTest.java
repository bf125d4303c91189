/** Boundary cases of a new object, of what is asked of one hearse or mourner, and of acts (promises 1, 9 to 15, 17). */
public final class EdgesOfActsTest {
    private static final int LEAST = -2147483648;
    private static final int MOST = 2147483647;

    public static void main(String[] args) {
        everyCallOnANewObject();
        hearseThatHasArrived();
        hearseNoneSuch();
        bitsOfNoneAndOfAll();
        mournerThatHasEnded();
        mournerNoneSuch();
        sheetOfBytes();
        sheetOfShorts();
        sheetOfInts();
        sheetPutOnTheAvenue();
        sheetShorterOrLonger();
        sheetMissing();
        sheetBelowNothing();
        sheetRefused();
        sheetOfOnesThatHaveEnded();
        stepsOfNoneToSixty();
        stepsTellWaitsAndChanges();
        turnsOfOneThatFollowsNone();
        turnsThatCantBe();
        pushesOfNineAtMost();
        pushesToTheEnds();
        pushesThatCantBe();
        swapsApart();
        swapsThatCantBe();
        undoOfFifteen();
        undoOfThoseDone();
        undoIsForgotten();
        undoBringsAllBack();
        fiveHundredAndTwelveCalls();
        Due.end();
    }

    // ---- promise 1

    private static void everyCallOnANewObject() {
        BehindAnotherHearse x = new BehindAnotherHearse();
        int[] counts = {4, 0, 0, 0, 0, 0, 0, 0, 0, 0, 0, 0, 0};
        for (int what = 0; what < counts.length; what++) {
            Due.is("new: count(" + what + ")", x.count(what), counts[what]);
        }
        Due.none("new: row(0)", () -> x.row(0));
        Due.none("new: hearse(0, 0)", () -> x.hearse(0, 0));
        Due.none("new: mourner(0, 0)", () -> x.mourner(0, 0));
        int[][] refused = {{x.turnsTo(0), -1}, {x.pushes(0, 1), -1}, {x.swaps(0, 1), -1}, {x.undo(), -1}, {x.arrives(0), -1},
            {x.passes(0, 1), -1}, {x.ends(0), -1}, {x.stands(0), -1}, {x.when(0), -1}, {x.mends(1), -2}, {x.misleads(), -2},
            {x.crowd(), -2}, {x.strangers(), -2}, {x.again(0) ? 1 : -1, -1}, {x.avenue(), -1}, {x.weather(), -1}};
        for (int k = 0; k < refused.length; k++) {
            Due.is("new: refused call " + k, refused[k][0], refused[k][1]);
        }
        Due.is("new: no ROW yet", x.count(11), 0);
        int[][] none = {{x.line(), 0}, {x.ahead(99), 0}, {x.order(), 0}, {x.shares(0), 0}, {x.hearses(), 0}, {x.mourners(), 0},
            {x.rule(), 0}, {x.forget(), 0}, {x.sheet(2, 8, 1, 1), 0}, {x.sheet(3, 0, 0, 0), -3}};
        for (int k = 0; k < none.length; k++) {
            Due.is("new: call " + k, none[k][0], none[k][1]);
        }
        Due.row("new: shares()", x);
        Due.is("new: right()", x.right(), 0);
        Due.row("new: right()", x, 0, 0);
        Due.is("new: jam(60)", x.jam(60), 0);
        Due.row("new: jam(60)", x, 0, 0);
        Due.is("new: mends(0)", x.mends(0), 0);
        Due.row("new: mends(0)", x, 0);
        Due.is("new: doubts()", x.doubts(), 0);
        Due.row("new: doubts()", x, 0);
        Due.is("new: fits()", x.fits(), 0);
        Due.row("new: fits()", x, 0);
        Due.is("new: years(0, 60)", x.years(0, 60), 0);
        Due.row("new: years(0, 60)", x, 0, 0);
        Due.is("new: keep(0)", x.keep(0), true);
        Due.is("new: steps(60)", x.steps(60), 0);
        Due.row("new: steps(60)", x, 0, 0);
        Due.is("new: again(0)", x.again(0), true);
        Due.is("new: STEP", x.count(3), 0);
    }

    // ---- promises 9 and 10

    private static void hearseThatHasArrived() {
        BehindAnotherHearse x = Due.scene("........", "5;6;0", "5c;6a;0b", "3");
        int[] before = {5, 0, 3, 0, 0, 2};
        for (int what = 0; what < 6; what++) {
            Due.is("not ARRIVED: what " + what, x.hearse(0, what), before[what]);
        }
        Due.rule(x, "3*(i<2)");
        x.turnsTo(1);
        x.steps(1);
        int[] behind = {-1, 2, 0, 2, 2, 2};
        for (int what = 0; what < 6; what++) {
            Due.is("ARRIVED: what " + what, x.hearse(0, what), behind[what]);
        }
        Due.rule(x, "3");
        Due.is("ARRIVED: PACE by any RULE", x.hearse(0, 2), 0);
        Due.is("as the first one", x.hearse(1, 1), 1);
        Due.is("not: 0", x.hearse(2, 1), 0);
    }

    private static void hearseNoneSuch() {
        for (int hearses = 0; hearses <= 6; hearses++) {
            BehindAnotherHearse x = Due.scene("..............", "0;1;2;3;4;5".substring(0, Math.max(0, 2 * hearses - 1)), "", "");
            for (int h : new int[] {LEAST, -1, 0, 1, 2, 3, 4, 5, 6, 7, MOST}) {
                if (h >= 0 && h < hearses) {
                    Due.is("CELL", x.hearse(h, 0), h);
                    Due.is("nobody's OWN", x.hearse(h, 5), 0);
                } else {
                    Due.none("hearse(" + h + ", 0) of " + hearses, () -> x.hearse(h, 0));
                    Due.none("hearse(" + h + ", 6) of " + hearses, () -> x.hearse(h, 6));
                }
            }
        }
        BehindAnotherHearse y = Due.scene("......", "0;1", "", "");
        for (int what : new int[] {LEAST, -1, 6, 7, MOST}) {
            Due.none("hearse(0, " + what + ")", () -> y.hearse(0, what));
            Due.none("hearse(1, " + what + ")", () -> y.hearse(1, what));
        }
    }

    private static void bitsOfNoneAndOfAll() {
        BehindAnotherHearse x = Due.scene("......", "3;0", "3a;3a;3a;3a;3a;3a;3a;3b", "i=0");
        x.steps(1);
        Due.is("all eight FOLLOW it", x.hearse(0, 3), 255);
        Due.is("none FOLLOWS it", x.hearse(1, 3), 0);
        Due.is("seven of them are its OWN", x.hearse(0, 5), 127);
        Due.is("the eighth one alone", x.hearse(1, 5), 128);
        Due.is("none has ENDED", x.hearse(0, 4), 0);
        x.steps(1);
        Due.is("all eight have ENDED", x.hearse(0, 4), 255);
        Due.is("none at the other", x.hearse(1, 4), 0);
        Due.is("they FOLLOW it still", x.hearse(0, 3), 255);
    }

    private static void mournerThatHasEnded() {
        BehindAnotherHearse x = Due.scene("......", "3;0", "2b", "i=0");
        int[] first = {2, 1, -1, -1, 0};
        for (int what = 0; what < 5; what++) {
            Due.is("at first: what " + what, x.mourner(0, what), first[what]);
        }
        x.steps(1);
        int[] midst = {4, 1, 0, -1, 0};
        for (int what = 0; what < 5; what++) {
            Due.is("in the midst: what " + what, x.mourner(0, what), midst[what]);
        }
        x.steps(1);
        int[] last = {4, 1, 0, 0, 1};
        for (int what = 0; what < 5; what++) {
            Due.is("ENDED: what " + what, x.mourner(0, what), last[what]);
        }
        Due.rule(x, "1");
        x.steps(5);
        Due.is("none is near, when all have ARRIVED", x.mourner(0, 4), -1);
        Due.mourners(x, "0a");
        Due.is("nor to another one", x.mourner(1, 4), -1);
        Due.is("it FOLLOWS none", x.mourner(1, 2), -1);
        Due.hearses(x, "4");
        Due.is("but to a hearse that comes then", x.mourner(0, 4) * 10 + x.mourner(1, 4), 22);
    }

    private static void mournerNoneSuch() {
        String eight = "0a;1a;2a;3a;4a;5a;6a;7a";
        for (int mourners = 0; mourners <= 8; mourners++) {
            BehindAnotherHearse x = Due.scene("..........", "0", eight.substring(0, Math.max(0, 3 * mourners - 1)), "");
            for (int m : new int[] {LEAST, -1, 0, 1, 2, 3, 4, 5, 6, 7, 8, 9, MOST}) {
                if (m >= 0 && m < mourners) {
                    Due.is("CELL", x.mourner(m, 0), m);
                } else {
                    Due.none("mourner(" + m + ", 0) of " + mourners, () -> x.mourner(m, 0));
                    Due.none("mourner(" + m + ", 5) of " + mourners, () -> x.mourner(m, 5));
                }
            }
        }
        BehindAnotherHearse y = Due.scene("......", "0", "0a;1a", "");
        for (int what : new int[] {LEAST, -1, 5, 6, MOST}) {
            Due.none("mourner(0, " + what + ")", () -> y.mourner(0, what));
            Due.none("mourner(1, " + what + ")", () -> y.mourner(1, what));
        }
    }

    // ---- promise 11

    /** One mourner on CELL 7 of thirty: where an entry puts it. */
    private static void entry(int kind, int f, int want) {
        BehindAnotherHearse x = Due.scene("..............................", "0", "7a", "");
        Due.is("sheet(" + kind + ", 1, " + f + ", 0)", x.sheet(kind, 1, f, 0), want);
        Due.is("its CELL by " + f, x.mourner(0, 0), want);
    }

    private static void sheetOfBytes() {
        int[][] entries = {{0, 0}, {5, 5}, {127, 28}, {128, 0}, {255, 0}, {256, 0}, {257, 1}, {284, 28}, {285, 28}, {383, 28},
            {384, 0}, {-1, 0}, {-128, 0}, {-129, 28}, {-250, 6}, {-256, 0}, {LEAST, 0}, {MOST, 0}, {LEAST + 9, 9}, {65541, 5}};
        for (int[] one : entries) {
            entry(0, one[0], one[1]);
        }
    }

    private static void sheetOfShorts() {
        int[][] entries = {{0, 0}, {127, 28}, {128, 28}, {255, 28}, {257, 28}, {32767, 28}, {32768, 0}, {65535, 0}, {65536, 0},
            {65540, 4}, {-1, 0}, {-32768, 0}, {-32769, 28}, {-65530, 6}, {LEAST, 0}, {MOST, 0}, {LEAST + 9, 9}};
        for (int[] one : entries) {
            entry(1, one[0], one[1]);
        }
    }

    private static void sheetOfInts() {
        int[][] entries = {{0, 0}, {28, 28}, {29, 28}, {30, 28}, {65540, 28}, {MOST, 28}, {-1, 0}, {LEAST, 0}, {LEAST + 9, 0}};
        for (int[] one : entries) {
            entry(2, one[0], one[1]);
        }
        BehindAnotherHearse x = Due.scene("..........", "0", "0a;0a;0a;0a", "");
        Due.is("entries that come round", x.sheet(2, 4, MOST - 1, 1), 16);
        Due.is("steps that come round", x.sheet(2, 4, 3, LEAST), 6);
        Due.is("f, f + step, ..", x.sheet(2, 4, 6, -2), 12);
        Due.is("by mourners", x.mourner(0, 0) * 1000 + x.mourner(1, 0) * 100 + x.mourner(2, 0) * 10 + x.mourner(3, 0), 6420);
        Due.is("bytes, by mourners", x.sheet(0, 4, 2, 129), 2 + 0 + 4 + 0);
        Due.is("shorts, by mourners", x.sheet(1, 4, 2, 32769), 2 + 0 + 4 + 0);
    }

    private static void sheetPutOnTheAvenue() {
        for (int cells = 4; cells <= 30; cells++) {
            BehindAnotherHearse x = Due.scene(".".repeat(cells), "0", "1a", "");
            Due.is("THE GATE of " + cells, x.sheet(2, 1, cells - 1, 0), cells - 2);
            Due.is("the one ahead of it", x.sheet(2, 1, cells - 2, 0), cells - 2);
            Due.is("one less", x.sheet(2, 1, cells - 3, 0), cells - 3);
            Due.is("below 0", x.sheet(2, 1, -1, 0), 0);
        }
    }

    private static void sheetShorterOrLonger() {
        for (int n = 0; n <= 8; n++) {
            BehindAnotherHearse x = Due.scene("..........", "0", "1a;2a;3a;4a", "");
            int entries = Math.min(n, 4);
            Due.is("of " + n + " entries: the sum", x.sheet(2, n, 5, 1), entries * 5 + entries * (entries - 1) / 2);
            for (int m = 0; m < 4; m++) {
                Due.is("those behind it have 0: " + m + " of " + n, x.mourner(m, 0), m < n ? 5 + m : 0);
            }
        }
        Due.is("no MOURNERS", new BehindAnotherHearse().sheet(2, 8, 2, 0), 0);
        BehindAnotherHearse y = Due.scene("..........", "0", "1a;2a;3a;4a;5a;6a;7a;8a", "");
        Due.is("eight of eight", y.sheet(2, 8, 0, 1), 28);
        Due.is("seven of eight", y.sheet(2, 7, 1, 1), 28);
        Due.is("none of eight", y.sheet(2, 0, 1, 1), 0);
        Due.is("missing, of eight", y.sheet(3, 8, 1, 1), -3);
    }

    private static void sheetMissing() {
        for (int n : new int[] {LEAST, -1, 0, 1, 8}) {
            BehindAnotherHearse x = Due.scene("..........", "0", "1a;2a;3a", "");
            Due.is("missing, n " + n, x.sheet(3, n, 5, 1), -3);
            Due.is("all 0", x.mourner(0, 0) + x.mourner(1, 0) + x.mourner(2, 0), 0);
        }
    }

    private static void sheetBelowNothing() {
        for (int kind = 0; kind < 3; kind++) {
            BehindAnotherHearse x = Due.scene("..........", "0", "1a;2a;3a", "");
            Due.is("n -1", x.sheet(kind, -1, 5, 1), -2);
            Due.is("the least n", x.sheet(kind, LEAST, 5, 1), -2);
            Due.is("nothing changes", x.mourner(0, 0) * 100 + x.mourner(1, 0) * 10 + x.mourner(2, 0), 123);
        }
    }

    private static void sheetRefused() {
        BehindAnotherHearse x = Due.scene("..........", "0", "1a;2a;3a", "");
        for (int kind : new int[] {LEAST, -1, 4, MOST}) {
            for (int n : new int[] {LEAST, -1, 0, 1, 8, 9, MOST}) {
                Due.is("another kind " + kind + ", n " + n, x.sheet(kind, n, 5, 1), -1);
            }
        }
        for (int kind = 0; kind < 4; kind++) {
            Due.is("n 9 of kind " + kind, x.sheet(kind, 9, 5, 1), -1);
            Due.is("the most n of kind " + kind, x.sheet(kind, MOST, 5, 1), -1);
        }
        Due.is("nothing changes", x.mourner(0, 0) * 100 + x.mourner(1, 0) * 10 + x.mourner(2, 0), 123);
    }

    private static void sheetOfOnesThatHaveEnded() {
        BehindAnotherHearse x = Due.scene("..........", "7;0", "7a;0a;7a;0b", "i=0");
        x.steps(2);
        Due.is("two have ENDED", x.hearse(0, 4), 5);
        Due.is("both on CELL 8", x.mourner(0, 0) * 10 + x.mourner(2, 0), 88);
        Due.is("an entry of theirs does nothing", x.sheet(2, 4, 1, 1), 8 + 2 + 8 + 4);
        Due.is("those behind a sheet have 0, but for them", x.sheet(2, 1, 5, 0), 8 + 0 + 8 + 0);
        x.sheet(2, 4, 1, 1);
        Due.is("missing", x.sheet(3, 0, 0, 0), -3);
        Due.is("all 0, but for them", x.mourner(0, 0) * 1000 + x.mourner(1, 0) * 100 + x.mourner(2, 0) * 10 + x.mourner(3, 0), 8080);
    }

    // ---- promise 12

    private static void stepsOfNoneToSixty() {
        BehindAnotherHearse x = Due.scene("..........", "0", "", "1");
        for (int n : new int[] {LEAST, -1, 61, 62, MOST}) {
            Due.is("steps(" + n + ")", x.steps(n), -1);
        }
        Due.is("nothing is done", x.count(3) + x.count(10) + x.count(11) + x.hearse(0, 0), 0);
        Due.is("steps(0)", x.steps(0), 0);
        Due.row("steps(0)", x, 0, 0);
        Due.is("STEP", x.count(3), 0);
        Due.is("steps(8): one ahead of THE GATE", x.steps(8), 0);
        Due.is("steps(1)", x.steps(1), 1);
        Due.is("steps(60)", x.steps(60), 1);
        Due.is("STEP", x.count(3), 69);
        BehindAnotherHearse y = Due.scene("....", "0;2", "", "0");
        y.steps(60);
        Due.row("sixty STEPS of two that WAIT", y, 120, 0);
    }

    private static void stepsTellWaitsAndChanges() {
        BehindAnotherHearse x = Due.scene("............", "2;8", "4a;6a", "0");
        x.steps(1);
        Due.row("the first one counts", x, 2, 2);
        x.steps(1);
        Due.row("who stays with one does not", x, 2, 0);
        x.pushes(0, 6);
        x.steps(2);
        Due.row("a change, once", x, 4, 1);
        x.turnsTo(0);
        x.steps(1);
        Due.row("a turn is none, but the change back is", x, 2, 1);
    }

    // ---- promises 13 to 15

    private static void turnsOfOneThatFollowsNone() {
        BehindAnotherHearse x = Due.scene("............", "2;8", "4a;4b", "0");
        Due.is("it FOLLOWED none", x.turnsTo(0), -4);
        Due.is("it FOLLOWS now", x.mourner(0, 2), 0);
        Due.is("-4 is no refusal: it can be undone", x.undo(), 0);
        Due.is("it FOLLOWS none again", x.mourner(0, 2), -1);
        x.steps(1);
        Due.is("it FOLLOWED hearse 0", x.turnsTo(1), 0);
        Due.is("hearse 1 now", x.mourner(1, 2), 1);
        Due.is("its CELL stays", x.mourner(1, 0), 2);
    }

    private static void turnsThatCantBe() {
        BehindAnotherHearse x = Due.scene("............", "9;2", "9a;9b;0a;0b", "2*(i=0)");
        for (int m : new int[] {LEAST, -1, 4, 8, MOST}) {
            Due.is("none such: " + m, x.turnsTo(m), -1);
        }
        x.turnsTo(0);
        x.turnsTo(1);
        Due.is("it FOLLOWS it already", x.turnsTo(0), -3);
        x.steps(1);
        Due.is("ARRIVED, and one has ENDED", x.count(4) * 10 + x.count(5), 11);
        Due.is("it has ENDED at its OWN", x.turnsTo(0), -2);
        Due.is("its OWN has ARRIVED", x.turnsTo(2), -3);
        Due.is("it FOLLOWS it already", x.turnsTo(3), -3);
        BehindAnotherHearse y = Due.scene("......", "3;0", "3b", "i=0");
        y.steps(2);
        Due.is("it has ENDED at another one", y.turnsTo(0), -2);
        Due.is("it stays so", y.mourner(0, 3) + y.mourner(0, 2), 0);
    }

    private static void pushesOfNineAtMost() {
        for (int v = -12; v <= 12; v++) {
            BehindAnotherHearse x = Due.scene(".............................c", "0", "14a", "");
            boolean can = v != 0 && v >= -9 && v <= 9;
            Due.is("by " + v, x.pushes(0, v), can ? 14 + v : -1);
            Due.is("its CELL by " + v, x.mourner(0, 0), can ? 14 + v : 14);
            Due.is("undone by " + v, x.undo(), can ? 0 : -1);
            Due.is("its CELL again", x.mourner(0, 0), 14);
        }
    }

    private static void pushesToTheEnds() {
        for (int cells = 4; cells <= 30; cells++) {
            BehindAnotherHearse x = Due.scene(".".repeat(cells), "0", "1a", "");
            for (int k = 0; k < 4; k++) {
                x.pushes(0, 9);
            }
            Due.is("that ahead of THE GATE", x.mourner(0, 0), cells - 2);
            Due.is("by 1 there", x.pushes(0, 1), cells - 2);
            Due.is("it can be undone, though it is as ahead", x.undo(), 4);
            for (int k = 0; k < 4; k++) {
                x.pushes(0, -9);
            }
            Due.is("CELL 0", x.mourner(0, 0), 0);
            Due.is("back by 1 there", x.pushes(0, -1), 0);
            Due.is("ahead by 1", x.pushes(0, 1), 1);
        }
    }

    private static void pushesThatCantBe() {
        BehindAnotherHearse x = Due.scene("......", "3", "3a;0a", "1");
        for (int m : new int[] {LEAST, -1, 2, 8, MOST}) {
            Due.is("none such: " + m, x.pushes(m, 1), -1);
        }
        for (int v : new int[] {LEAST, -10, 0, 10, MOST}) {
            Due.is("by " + v, x.pushes(0, v), -1);
            Due.is("none such, by " + v, x.pushes(2, v), -1);
        }
        x.steps(2);
        Due.is("it has ENDED", x.pushes(0, 1), -2);
        Due.is("it has ENDED", x.pushes(1, -9), -2);
        Due.is("it has ENDED, by 0", x.pushes(0, 0), -1);
        Due.is("it has ENDED, by 10", x.pushes(0, 10), -1);
    }

    private static void swapsApart() {
        BehindAnotherHearse x = Due.scene("..............................", "0;28;27", "", "0");
        Due.is("the farthest", x.swaps(0, 1), 28);
        Due.is("places", x.hearse(0, 0) * 100 + x.hearse(1, 0), 2800);
        Due.is("the nearest", x.swaps(2, 0), 1);
        Due.is("places", x.hearse(0, 0) * 100 + x.hearse(2, 0), 2728);
        Due.is("back", x.swaps(0, 2), 1);
    }

    private static void swapsThatCantBe() {
        BehindAnotherHearse x = Due.scene("......", "4;0;1", "", "i=0");
        for (int h : new int[] {LEAST, -1, 3, 6, MOST}) {
            Due.is("none such: " + h, x.swaps(h, 0), -1);
            Due.is("none such: " + h, x.swaps(0, h), -1);
            Due.is("none such, like ones: " + h, x.swaps(h, h), -1);
        }
        Due.is("like ones", x.swaps(1, 1), -1);
        x.steps(1);
        Due.is("the first has ARRIVED", x.swaps(0, 1), -2);
        Due.is("the second has ARRIVED", x.swaps(1, 0), -2);
        Due.is("like ones, ARRIVED", x.swaps(0, 0), -1);
        Due.is("none such, ARRIVED", x.swaps(0, 3), -1);
        Due.is("those that have not", x.swaps(1, 2), 1);
    }

    // ---- promise 17

    private static void undoOfFifteen() {
        for (int acts = 0; acts <= 33; acts++) {
            BehindAnotherHearse x = Due.scene("....", "0", "", "0");
            for (int k = 0; k < acts; k++) {
                x.steps(1);
            }
            int can = Math.min(acts, 15);
            Due.is("what can be undone of " + acts, x.count(10), can);
            for (int left = can - 1; left >= 0; left--) {
                Due.is("undo of " + acts, x.undo(), left);
                Due.is("STEP", x.count(3), acts - can + left);
            }
            Due.is("none is left of " + acts, x.undo(), -1);
            x.steps(2);
            Due.is("one more", x.undo(), 0);
            Due.is("STEP", x.count(3), acts - can);
        }
    }

    private static void undoOfThoseDone() {
        BehindAnotherHearse x = Due.scene("......", "4;0", "4b;0b", "i=0");
        Due.is("steps(0) is done", x.steps(0) + x.count(10), 1);
        Due.is("undo", x.undo(), 0);
        x.steps(1);
        x.undo();
        Due.is("a push is one", x.pushes(0, 1) + x.count(10), 5);
        Due.is("a turn is one", x.turnsTo(0) + x.count(10), -4 + 2);
        Due.is("a swap is one", x.swaps(0, 1) + x.count(10), 4 + 3);
        x.steps(-1);
        x.steps(61);
        x.turnsTo(0);
        x.turnsTo(2);
        x.pushes(0, 0);
        x.pushes(2, 1);
        x.swaps(0, 0);
        x.swaps(0, 2);
        Due.hour(x, "t0");
        Due.hour(x, "");
        Due.hour(x, "y");
        Due.is("refused ones are not", x.count(10), 3);
        x.sheet(2, 2, 1, 1);
        Due.weather(x, "3");
        Due.rule(x, "i=0");
        x.heard(0, 0);
        x.keep(0);
        x.years(1, 9);
        Due.law(x, "1");
        Due.is("nor are other calls", x.count(10), 3);
        Due.is("undo", x.undo(), 2);
        Due.is("undo", x.undo(), 1);
        Due.is("undo", x.undo(), 0);
        Due.is("none", x.undo(), -1);
    }

    private static void undoIsForgotten() {
        String[] names = {"avenue", "hearses", "mourners", "again", "a refused avenue", "refused hearses", "refused mourners",
            "a refused again", "empty hearses", "empty mourners", "an empty avenue", "weather", "rule", "keep", "forget"};
        for (int k = 0; k < names.length; k++) {
            BehindAnotherHearse x = Due.scene("......", "4;0", "4b;0b", "0");
            x.keep(0);
            x.steps(3);
            x.steps(2);
            forgetBy(x, k);
            Due.is(names[k] + ": what can be undone", x.count(10), k < 4 ? 0 : 2);
            Due.is(names[k] + ": undo()", x.undo(), k < 4 ? -1 : 1);
        }
    }

    private static void forgetBy(BehindAnotherHearse x, int way) {
        int[] answers = {6, 1, 1, 1, -2, -3, -5, 0, 0, 0, -1, 1, 0, 1, 0};
        int got;
        switch (way) {
            case 0: got = Due.avenue(x, "......"); break;
            case 1: got = Due.hearses(x, "1"); break;
            case 2: got = Due.mourners(x, "1a"); break;
            case 3: got = x.again(0) ? 1 : 0; break;
            case 4: got = Due.avenue(x, ".x...."); break;
            case 5: got = Due.hearses(x, "1;1"); break;
            case 6: got = Due.mourners(x, "1a;2"); break;
            case 7: got = x.again(1) ? 1 : 0; break;
            case 8: got = Due.hearses(x, ""); break;
            case 9: got = Due.mourners(x, ""); break;
            case 10: got = Due.avenue(x, ""); break;
            case 11: got = Due.weather(x, "5"); break;
            case 12: got = Due.rule(x, "2"); break;
            case 13: got = x.keep(1) ? 1 : 0; break;
            default: got = x.forget();
        }
        Due.is("way " + way, got, answers[way]);
    }

    private static void undoBringsAllBack() {
        BehindAnotherHearse x = Due.scene("......", "4;3;0", "4a;3b;0c;4c", "1");
        x.turnsTo(3);
        x.turnsTo(0);
        x.steps(60);
        Due.is("all have ARRIVED and ENDED", x.count(4) * 10 + x.count(5), 34);
        Due.is("undo", x.undo(), 2);
        Due.is("none has", x.count(4) * 10 + x.count(5) + x.count(6) + x.count(3), 0);
        int[] cells = {4, 3, 0};
        for (int h = 0; h < 3; h++) {
            Due.is("its CELL", x.hearse(h, 0), cells[h]);
            Due.is("not ARRIVED", x.hearse(h, 1), 0);
        }
        Due.is("who FOLLOWS", x.mourner(0, 2) * 100 + x.mourner(3, 2) * 10 + x.mourner(1, 2), 19);
        Due.is("where they are", x.mourner(0, 0) * 100 + x.mourner(1, 0) * 10 + x.mourner(2, 0), 430);
        Due.is("not ENDED", x.mourner(0, 3) + x.mourner(1, 3) + x.mourner(2, 3) + x.mourner(3, 3), -4);
        x.steps(1);
        Due.is("the first one to ARRIVE is 1 again", x.hearse(0, 1), 1);
        x.sheet(2, 4, 1, 0);
        x.undo();
        Due.is("what a sheet told is undone with what was ahead of it", x.mourner(3, 0), 4);
    }

    /** An object answers as it should up to the last of its 512 calls. */
    private static void fiveHundredAndTwelveCalls() {
        BehindAnotherHearse x = new BehindAnotherHearse();
        for (int call = 1; call <= 511; call++) {
            x.steps(call % 61);
        }
        Due.is("call 512", x.count(3), 511 / 61 * 1830 + 511 % 61 * (511 % 61 + 1) / 2);
        BehindAnotherHearse y = new BehindAnotherHearse();
        for (int call = 1; call <= 511; call++) {
            y.steps(60);
        }
        Due.is("call 512", y.undo(), 14);
    }
}
