/** Promises 12 to 17: steps, turns, pushes, swaps, hours, and what is undone. */
public final class StepsTest {
    public static void main(String[] args) {
        howHearsesGo();
        howMournersFollow();
        steps();
        turns();
        pushes();
        swaps();
        hours();
        undone();
        Due.end();
    }

    /** Hearse 0 has PACE 3, all others 0: where it is behind one STEP (-1: ARRIVED). */
    private static void goes(String avenue, String hearses, int want, int waits) {
        BehindAnotherHearse x = Due.scene(avenue, hearses, "", "3*(i=0)");
        String name = avenue + " " + hearses;
        x.steps(1);
        Due.is(name + ": CELL", x.hearse(0, 0), want);
        Due.row(name, x, waits, 0);
    }

    private static void howHearsesGo() {
        goes("........", "0", 3, 0);
        goes("........", "0;1", 3, 1);
        goes("........", "0;3", 2, 1);
        goes("........", "0;1;2;3", 0, 4);
        goes("........", "0;1;3", 2, 2);
        // no overtaking at a corner: on its own cell, on the way, on the cell where it would come
        goes("c.......", "0;1", 0, 2);
        goes(".c......", "0;1", 0, 2);
        goes("..c.....", "0;1", 0, 2);
        goes("...c....", "0;1", 2, 1);
        goes("....c...", "0;1", 3, 1);
        // where it can't overtake it goes on behind the other one
        goes("...c....", "0;2", 1, 1);
        goes("c.......", "0;2", 1, 1);
        // corners are nothing to one that overtakes none
        goes("cccccccc", "0", 3, 0);
        goes("........", "4", -1, 0);
        goes("........", "5", -1, 0);
        goes("........", "5;6", -1, 1);
        goes(".......c", "5;6", 5, 2);
        goes("........", "3;4;5;6", 3, 4);
        goes("........", "4;5;6", -1, 2);

        BehindAnotherHearse x = Due.scene("..........", "0;1;2;3", "", "1");
        x.steps(1);
        Due.row("the one ahead goes first, so none waits", x, 0, 0);
        Due.is("all go", x.hearse(0, 0) * 1000 + x.hearse(1, 0) * 100 + x.hearse(2, 0) * 10 + x.hearse(3, 0), 1234);
        BehindAnotherHearse y = Due.scene("..........", "0;4", "", "g");
        y.steps(1);
        Due.is("g is as those ahead have left it: 3 and more", y.hearse(0, 0), 3);
        BehindAnotherHearse z = Due.scene("......", "4;3;0", "", "3");
        z.steps(1);
        Due.is("both ARRIVED, the one ahead as the first", z.hearse(0, 1) * 10 + z.hearse(1, 1), 12);
        Due.is("and the third not", z.hearse(2, 1), 0);
    }

    private static void howMournersFollow() {
        BehindAnotherHearse x = Due.scene("...............", "2;8;12", "5a;0a;13a;7a", "0");
        x.steps(1);
        int[] follows = {1, 0, 2, 1};
        int[] cells = {7, 2, 12, 8};
        for (int m = 0; m < 4; m++) {
            Due.is("the nearest one, of equal ones that ahead", x.mourner(m, 2), follows[m]);
            Due.is("2 CELLS, or till it is there", x.mourner(m, 0), cells[m]);
        }
        // mourner 0, turned to hearse 0 on CELL 2, changes over when another one is nearer, not when it is as near
        BehindAnotherHearse y = Due.scene("...............", "2;8", "5a;6a;1b", "0");
        for (int m = 0; m < 3; m++) {
            Due.is("turns", y.turnsTo(m), -4);
        }
        y.steps(1);
        Due.is("as near: it stays", y.mourner(0, 2) * 100 + y.mourner(0, 0), 3);
        Due.is("nearer: it changes over", y.mourner(1, 2) * 100 + y.mourner(1, 0), 108);
        Due.is("nearer behind: it changes over", y.mourner(2, 2) * 100 + y.mourner(2, 0), 2);
        Due.row("changes", y, 2, 2);
        // who FOLLOWS one that ARRIVES ends there in that STEP, and goes no more
        BehindAnotherHearse z = Due.scene("......", "3;0", "3a;0b;1a", "i=0");
        z.steps(1);
        Due.is("FOLLOWS", z.mourner(0, 2) + z.mourner(0, 0), 4);
        z.steps(1);
        Due.is("ENDED", z.mourner(0, 3) * 10 + z.mourner(0, 0), 4);
        Due.is("not ENDED", z.mourner(1, 3), -1);
        Due.is("follows the other", z.mourner(2, 2), 1);
        // all have ARRIVED: who FOLLOWS none FOLLOWS none
        BehindAnotherHearse w = Due.scene("......", "4", "", "1");
        w.steps(1);
        Due.mourners(w, "2a");
        w.steps(5);
        Due.row("nothing happens", w, 0, 0);
        Due.is("none", w.mourner(0, 2) * 10 + w.mourner(0, 0), -10 + 2);
    }

    private static void steps() {
        BehindAnotherHearse x = Due.scene("......", "4;3", "3a;0b", "1");
        Due.is("steps(-1)", x.steps(-1), -1);
        Due.is("steps(61)", x.steps(61), -1);
        Due.is("nothing can be undone", x.count(10), 0);
        Due.is("steps(0)", x.steps(0), 0);
        Due.row("steps(0)", x, 0, 0);
        Due.is("steps(0) can be undone", x.count(10), 1);
        Due.is("steps(1)", x.steps(1), 1);
        Due.row("steps(1)", x, 0, 2);
        Due.is("STEP", x.count(3), 1);
        Due.is("steps(60)", x.steps(60), 2);
        Due.is("STEP", x.count(3), 61);
        Due.is("ENDED, at their OWN", x.count(5) * 10 + x.count(6), 21);
        Due.is("refused: the ROW stays", x.steps(100) * 10 + x.count(11), -8);
        BehindAnotherHearse y = Due.scene("......", "1;3", "", "w");
        Due.weather(y, "010");
        y.steps(4);
        Due.row("WAITED by the weather", y, 6, 0);
    }

    private static void turns() {
        BehindAnotherHearse x = Due.scene(".........", "7;0;3", "7b;7a;0b", "i=0");
        Due.is("none such", x.turnsTo(3), -1);
        Due.is("none such", x.turnsTo(-1), -1);
        Due.is("FOLLOWED none", x.turnsTo(0), -4);
        Due.is("FOLLOWS it already", x.turnsTo(0), -3);
        Due.is("FOLLOWS its OWN", x.mourner(0, 2), 1);
        Due.is("it can be undone", x.count(10), 1);
        x.steps(1);
        Due.is("its OWN has ARRIVED", x.turnsTo(1), -3);
        Due.is("changed over to the nearer one", x.mourner(0, 2), 2);
        Due.is("FOLLOWED 2", x.turnsTo(0), 2);
        BehindAnotherHearse y = Due.scene("......", "3;1", "3b", "1");
        y.steps(2);
        Due.is("it has ENDED", y.turnsTo(0), -2);
    }

    private static void pushes() {
        BehindAnotherHearse x = Due.scene("..........", "0", "4a", "");
        Due.is("none such", x.pushes(1, 1), -1);
        Due.is("none such", x.pushes(-1, 1), -1);
        Due.is("by 0", x.pushes(0, 0), -1);
        Due.is("by 10", x.pushes(0, 10), -1);
        Due.is("by -10", x.pushes(0, -10), -1);
        Due.is("nothing can be undone", x.count(10), 0);
        Due.is("ahead", x.pushes(0, 2), 6);
        Due.is("back", x.pushes(0, -1), 5);
        Due.is("to that ahead of THE GATE", x.pushes(0, 9), 8);
        Due.is("back by 9", x.pushes(0, -9), 0);
        Due.is("to 0", x.pushes(0, -3), 0);
        Due.is("its CELL", x.mourner(0, 0), 0);
        Due.is("they can be undone", x.count(10), 5);
        BehindAnotherHearse y = Due.scene("......", "3", "3a", "1");
        y.steps(2);
        Due.is("it has ENDED", y.pushes(0, 1), -2);
        Due.is("by 0, though it has ENDED", y.pushes(0, 0), -1);
    }

    private static void swaps() {
        BehindAnotherHearse x = Due.scene("..........", "1;8;5", "1a", "i=1");
        Due.is("like ones", x.swaps(1, 1), -1);
        Due.is("none such", x.swaps(0, 3), -1);
        Due.is("none such", x.swaps(-1, 0), -1);
        Due.is("apart", x.swaps(0, 2), 4);
        Due.is("places", x.hearse(0, 0) * 10 + x.hearse(2, 0), 51);
        Due.is("apart, the other way", x.swaps(2, 1), 7);
        Due.is("places", x.hearse(2, 0) * 10 + x.hearse(1, 0), 81);
        x.swaps(1, 2);
        x.steps(1);
        Due.is("one has ARRIVED", x.swaps(0, 1), -2);
        Due.is("one has ARRIVED", x.swaps(1, 0), -2);
        Due.is("like ones, though it has ARRIVED", x.swaps(1, 1), -1);
        Due.is("what can be undone", x.count(10), 4);
    }

    private static void hours() {
        BehindAnotherHearse x = Due.scene("..........", "0;4", "4a;0b", "1");
        Due.is("an empty one", Due.hour(x, ""), 0);
        Due.row("an empty one", x, 0, 0);
        Due.is("nothing can be undone", x.count(10), 0);
        Object[][] bad = {{"y", 0}, {"n", 1}, {"nn", 1}, {"n1t", 3}, {"p1", 2}, {"p10", 2}, {"b00", 2}, {"b1", 2}, {"px1", 1},
            {"x1", 2}, {"x1a", 2}, {"n12", 2}, {"n1 ", 2}, {"t1t1t", 5}, {"x01p", 4}, {"n1".repeat(30) + "n1", 60},
            {"n1".repeat(30) + "y", 60}, {"n1".repeat(29) + "x01", 60}, {"n1".repeat(29) + "y1n", 58},
            {"n1".repeat(28) + "x01p1", 60}, {"n1".repeat(28) + "x01p11", 60}, {"n1".repeat(28) + "p01p0y", 60}};
        for (Object[] one : bad) {
            Due.is("hour " + one[0], Due.hour(x, (String) one[0]), -1 - (Integer) one[1]);
        }
        Due.is("nothing is done then", x.count(3) * 10 + x.count(10), 0);
        Due.row("the ROW stays", x, 0, 0);
        Due.is("one of each", Due.hour(x, "n2t0p15b03x01"), 5);
        Due.row("one of each", x, 0, 2);
        Due.is("all are done", x.mourner(0, 2) * 10000 + x.mourner(1, 0) * 1000 + x.mourner(0, 0) * 100
            + x.hearse(0, 0) * 10 + x.hearse(1, 0), 7362);
        Due.is("as one", x.count(10), 1);
        Due.is("until one is refused", Due.hour(x, "n1n1t9n5"), 2);
        Due.row("until one is refused", x, 1, 4);
        Due.is("the first one is refused", Due.hour(x, "x00n5"), 0);
        Due.row("the first one is refused", x, 1, 4);
        Due.is("not to be undone", x.count(10), 2);
        Due.is("-3 is refused", Due.hour(x, "t0t0t0"), 1);
        Due.row("-3 is refused", x, 1, 4);
        Due.is("n0 is done", Due.hour(x, "n0"), 1);
        Due.is("n0 can be undone", x.count(10), 4);
        Due.is("undone as one", x.undo() + x.undo() * 10 + x.undo() * 100, 3 + 20 + 100);
        Due.is("STEP", x.count(3), 2);
        x.undo();
        Due.is("STEP", x.count(3), 0);
        Due.is("-4 is no refusal", Due.hour(x, "t0t1"), 2);
        Due.is("60 signs", Due.hour(x, "n9".repeat(30)), 30);
        Due.is("STEP", x.count(3), 270);
        Due.is("who has ENDED is not pushed", Due.hour(x, "n1p01"), 1);
        Due.row("who has ENDED is not pushed", x, 1, 271);
        Due.is("THE TEXT is empty", x.count(12), 0);
    }

    private static void undone() {
        BehindAnotherHearse x = Due.scene("..........", "0;4", "4a;0b", "1");
        Due.is("none", x.undo(), -1);
        x.steps(1);
        x.turnsTo(0);
        x.pushes(1, 3);
        x.swaps(0, 1);
        x.steps(60);
        Due.is("all have ARRIVED", x.count(4) * 10 + x.count(5), 22);
        Due.is("undo", x.undo(), 4);
        Due.is("none has", x.count(4) * 100 + x.count(5) * 10 + x.count(3), 1);
        Due.is("places", x.hearse(0, 0) * 10 + x.hearse(1, 0), 51);
        Due.is("undo", x.undo(), 3);
        Due.is("places", x.hearse(0, 0) * 10 + x.hearse(1, 0), 15);
        Due.is("pushed", x.mourner(1, 0), 4);
        Due.is("undo", x.undo(), 2);
        Due.is("not pushed", x.mourner(1, 0), 1);
        Due.is("turned", x.mourner(0, 2), 0);
        Due.is("undo", x.undo(), 1);
        Due.is("not turned", x.mourner(0, 2), 1);
        Due.is("undo", x.undo(), 0);
        Due.is("FOLLOWS none", x.mourner(0, 2), -1);
        Due.is("none", x.undo(), -1);
        for (int k = 0; k < 20; k++) {
            x.steps(1);
        }
        Due.is("fifteen are kept", x.count(10), 15);
        for (int k = 14; k >= 0; k--) {
            Due.is("undo", x.undo(), k);
        }
        Due.is("five are not undone", x.count(3), 5);
        Due.is("none", x.undo(), -1);
        x.turnsTo(9);
        x.pushes(0, 0);
        x.swaps(0, 0);
        x.steps(-1);
        Due.is("refused ones are none", x.undo(), -1);
        x.steps(1);
        x.sheet(2, 8, 3, 0);
        Due.is("a sheet is none", x.count(10), 1);
        x.undo();
        Due.is("but is undone with what was ahead of it", x.mourner(0, 0) == 3 && x.mourner(1, 0) == 3, false);
    }
}
