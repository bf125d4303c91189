/** Promises 23 to 30: who ends where, and what would change it. */
public final class EndsTest {
    public static void main(String[] args) {
        ends();
        right();
        order();
        stands();
        when();
        mends();
        misleads();
        crowd();
        Due.end();
    }

    private static void ends() {
        BehindAnotherHearse x = Due.scene("......", "3;0", "3a;0b;1a", "i=0");
        Due.is("none such", x.ends(3), -1);
        Due.is("none such", x.ends(-1), -1);
        Due.is("ends(0)", x.ends(0), 0);
        Due.row("ends(0)", x, 2, 1);
        Due.is("nowhere", x.ends(1), -2);
        Due.row("the ROW stays", x, 2, 1);
        x.steps(2);
        Due.is("already", x.ends(0), 0);
        Due.row("already", x, 0, 0);
        // it FOLLOWS hearse 0 at first, and changes over to hearse 1, which comes to its CELL
        BehindAnotherHearse y = Due.scene("..........", "3;0", "3a", "1+i");
        Due.is("the one that comes nearer", y.ends(0), 1);
        Due.row("the one that comes nearer", y, 6, 2);
        Due.is("nothing has changed", y.mourner(0, 2), -1);
    }

    private static void right() {
        BehindAnotherHearse x = Due.scene("........", "1;5", "0b;0a;6a;5b", "1");
        Due.is("right", x.right(), 2);
        Due.row("right", x, 10, 5);
        x.steps(2);
        Due.is("those who have ENDED count, too", x.right(), 2);
        Due.row("those who have ENDED count, too", x, 10, 5);
        Due.rule(x, "0");
        Due.is("some have not ENDED at THE END", x.right(), 1);
        Due.row("some have not ENDED at THE END", x, 8, 4);
        Due.is("nothing has changed", x.count(3), 2);
    }

    private static void order() {
        BehindAnotherHearse x = Due.scene("......", "1;3", "1b;3a", "1");
        Due.is("as it is", x.right(), 0);
        Due.is("changed", x.order(), 2);
        Due.row("changed", x, 3, 1);
        Due.is("nothing has changed", x.hearse(0, 0), 1);
        x.swaps(0, 1);
        Due.is("as it is the best", x.order(), 2);
        Due.row("as it is the best", x, 3, 1);
        BehindAnotherHearse y = Due.scene("........", "5;3;0;1", "", "1");
        Due.is("of as good ones the least row", y.order(), 0);
        Due.row("of as good ones the least row", y, 0, 1, 3, 5);
        BehindAnotherHearse w = Due.scene("..............", "0;2;4;6;8;10", "10a;8b;6c;4d;2e;0f", "1");
        Due.is("the last one of all", w.order(), 6);
        Due.row("the last one of all", w, 10, 8, 6, 4, 2, 0);
        BehindAnotherHearse z = Due.scene("........", "5;6;0", "6b;5b;1c", "1");
        z.steps(1);
        Due.is("only those that have not ARRIVED", z.order(), 1);
        Due.row("only those that have not ARRIVED", z, 1, 6);
        z.steps(60);
        Due.is("without any", z.order(), z.count(6));
        Due.row("without any", z);
    }

    private static void stands() {
        BehindAnotherHearse x = Due.scene("........", "1;5", "0b;0a;6a", "1");
        Due.is("none such", x.stands(3), -1);
        Due.is("none such", x.stands(-1), -1);
        Due.is("of hearse 1", x.stands(0), 4);
        Due.row("of hearse 1", x, 3);
        Due.is("of hearse 0", x.stands(1), 0);
        Due.row("of hearse 0", x, 4);
        x.turnsTo(0);
        Due.is("FOLLOWING none, though it FOLLOWS", x.stands(0), 4);
        x.steps(2);
        Due.is("it has ENDED", x.stands(2), -2);
        Due.is("its OWN has ARRIVED", x.stands(0), -2);
        Due.row("the ROW stays", x, 0, 3);
        Due.is("nothing has changed", x.mourner(1, 0), 3);
    }

    private static void when() {
        BehindAnotherHearse x = Due.scene("........", "1;5", "0b;0a;6a", "1");
        Due.is("none such", x.when(3), -1);
        Due.is("none such", x.when(-1), -1);
        Due.is("only at the last moment", x.when(0), 1);
        Due.row("only at the last moment", x, 1);
        // mourner 1 FOLLOWS its own from the first STEP on, till hearse 0 ARRIVES in the sixth
        Due.is("it need not turn", x.when(1), 0);
        Due.row("it need not turn", x, 5);
        Due.is("when the one that misleads it is about to ARRIVE", x.when(2), 1);
        Due.row("when the one that misleads it is about to ARRIVE", x, 1);
        Due.rule(x, "0");
        Due.is("by none", x.when(1), -2);
        Due.row("the ROW stays", x, 1);
        Due.rule(x, "1");
        x.steps(2);
        Due.is("it has ENDED", x.when(2), -2);
        Due.is("its OWN has ARRIVED", x.when(0), -2);
        x.steps(60);
        Due.is("it has ENDED at its OWN", x.mourner(1, 3), 0);
        Due.is("so it can't turn", x.when(1), -2);
    }

    private static void mends() {
        BehindAnotherHearse x = Due.scene("........", "1;5", "0b;0a", "1");
        Due.is("mends(-1)", x.mends(-1), -1);
        Due.is("mends(9)", x.mends(9), -1);
        Due.is("mends(0)", x.mends(0), 0);
        Due.row("mends(0)", x, 0);
        Due.is("mends(1)", x.mends(1), 0);
        Due.row("mends(1)", x, 0);
        Due.is("it can't be so", x.mends(2), -2);
        x.steps(1);
        Due.is("at the last moment", x.mends(2), 1);
        Due.row("at the last moment", x, 1);
        Due.is("it can't be so", x.mends(3), -2);
        // three FOLLOW hearse 0 when hearse 1 is about to ARRIVE
        BehindAnotherHearse y = Due.scene("........", "1;5", "0b;0b;1b;6b", "1");
        y.steps(1);
        Due.is("one is right", y.mends(1), 0);
        Due.is("of as few the least", y.mends(3), 2);
        Due.row("of as few the least", y, 3);
        Due.is("all", y.mends(4), 3);
        Due.row("all", y, 7);
        Due.is("nothing has changed", y.mourner(0, 2), 0);
    }

    private static void misleads() {
        BehindAnotherHearse x = Due.scene("........", "1;5", "0b;0a", "1");
        Due.is("misleads", x.misleads(), 0);
        Due.row("misleads", x, 1, 0);
        Due.is("nothing has changed", x.count(4), 0);
        BehindAnotherHearse y = Due.scene("........", "1;5;0", "1a;5b", "1");
        Due.is("the third", y.misleads(), 2);
        Due.row("the third", y, 2, 1);
        y.steps(60);
        Due.is("no hearse is on THE AVENUE", y.misleads(), -2);
        Due.row("the ROW stays", y, 0, 2);
        // who FOLLOWS it FOLLOWS none then: nobody ends there
        BehindAnotherHearse z = Due.scene("..........", "1;5", "1b", "1");
        z.steps(1);
        Due.is("it FOLLOWS hearse 0", z.mourner(0, 2), 0);
        Due.is("without it it is right", z.misleads(), 0);
        Due.row("without it it is right", z, 1, 0);
        BehindAnotherHearse w = Due.scene("..........", "1;5;8", "", "1");
        Due.is("of equal ones the first", w.misleads(), 0);
        Due.row("of equal ones the first", w, 0, 0);
        w.steps(1);
        w.swaps(0, 1);
        w.steps(4);
        Due.is("of those on THE AVENUE", w.misleads(), 1);
        Due.is("no HEARSES", new BehindAnotherHearse().misleads(), -2);
    }

    private static void crowd() {
        BehindAnotherHearse x = Due.scene("........", "1;5", "0b;0a;6a", "1");
        Due.is("crowd", x.crowd(), 0);
        Due.row("crowd", x, 2, 1);
        BehindAnotherHearse y = Due.scene("........", "1;5", "", "1");
        Due.is("of equal ones the first", y.crowd(), 0);
        Due.row("of equal ones the first", y, 0, 0);
        Due.mourners(y, "6a");
        Due.is("the second", y.crowd(), 1);
        Due.row("the second", y, 1, 0);
        y.steps(60);
        Due.is("who has ENDED counts", y.crowd(), 1);
        Due.is("no HEARSES", new BehindAnotherHearse().crowd(), -2);
    }
}
