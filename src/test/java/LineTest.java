/** Promises 18 to 22: the line, what is ahead, arrivals, jams, and who passes whom. */
public final class LineTest {
    /** By the rule w a hearse goes in every twentieth STEP alone. */
    private static final String RARE = "00000000000000000001";

    public static void main(String[] args) {
        line();
        ahead();
        arrives();
        jam();
        passes();
        Due.end();
    }

    private static void line() {
        BehindAnotherHearse x = Due.scene("..........", "3;8;0;5", "", "1");
        Due.is("line", x.line(), 4);
        Due.row("line", x, 1, 3, 0, 2);
        x.steps(1);
        Due.is("who has ARRIVED is not on THE AVENUE", x.line(), 3);
        Due.row("who has ARRIVED is not on THE AVENUE", x, 3, 0, 2);
        x.steps(60);
        Due.is("none", x.line(), 0);
        Due.row("none", x);
    }

    private static void ahead() {
        BehindAnotherHearse x = Due.scene("..........", "0;4", "0a", "1");
        Due.is("ahead(-1)", x.ahead(-1), -1);
        Due.is("ahead(100)", x.ahead(100), -1);
        Due.is("the ROW stays", x.count(11), 0);
        Due.is("ahead(0)", x.ahead(0), 0);
        Due.row("ahead(0)", x, 0, 4);
        Due.is("ahead(3)", x.ahead(3), 0);
        Due.row("ahead(3)", x, 3, 7);
        Due.is("ahead(5)", x.ahead(5), 1);
        Due.row("ahead(5)", x, 5, -1);
        Due.is("ahead(99)", x.ahead(99), 2);
        Due.row("ahead(99)", x, -1, -1);
        Due.is("nothing has changed", x.count(3) * 100 + x.count(10) * 10 + x.hearse(0, 0), 0);
    }

    private static void arrives() {
        BehindAnotherHearse x = Due.scene("..........", "0;4", "", "1");
        Due.is("none such", x.arrives(2), -1);
        Due.is("none such", x.arrives(-1), -1);
        Due.is("arrives(0)", x.arrives(0), 9);
        Due.row("arrives(0)", x, 2);
        Due.is("arrives(1)", x.arrives(1), 5);
        Due.row("arrives(1)", x, 1);
        x.steps(5);
        Due.is("it has", x.arrives(1), 0);
        Due.row("it has", x, 1);
        Due.is("four more", x.arrives(0), 4);
        Due.row("four more", x, 2);
        Due.rule(x, "0");
        Due.is("not at THE END", x.arrives(0), -2);
        Due.row("the ROW stays", x, 2);
        BehindAnotherHearse y = Due.scene("...........", "0", "0a", "w");
        Due.weather(y, RARE);
        Due.is("at THE END", y.arrives(0), 200);
        Due.row("at THE END", y, 1);
        Due.is("a mourner too", y.ends(0), 0);
        Due.row("a mourner too", y, 200, 1);
        Due.is("right", y.right(), 1);
        BehindAnotherHearse z = Due.scene("............", "0", "0a", "w");
        Due.weather(z, RARE);
        Due.is("one CELL more: not at THE END", z.arrives(0), -2);
        Due.is("nor a mourner", z.ends(0), -2);
        Due.is("none is right", z.right(), 0);
        Due.is("nor if it stood elsewhere", z.stands(0), -2);
        Due.is("but if it turns later, there are more STEPS", z.when(0), 20);
        Due.row("but if it turns later, there are more STEPS", z, 60);
        z.steps(19);
        Due.is("in 201 STEPS", z.arrives(0), -2);
        Due.is("in 201 STEPS", z.ends(0), -2);
        Due.is("in 201 STEPS", z.right(), 0);
        z.heard(1, 1);
        Due.is("in 201 STEPS", z.fits(), 0);
        z.steps(1);
        Due.is("in 200 STEPS", z.arrives(0), 200);
        Due.is("in 200 STEPS", z.ends(0), 0);
        Due.is("in 200 STEPS", z.right(), 1);
        Due.is("in 200 STEPS", z.fits(), 1);
    }

    private static void jam() {
        BehindAnotherHearse x = Due.scene("..........", "2;5", "", "0");
        Due.is("jam(0)", x.jam(0), -1);
        Due.is("jam(61)", x.jam(61), -1);
        Due.is("of equal ones the first", x.jam(3), 2);
        Due.row("of equal ones the first", x, 3, 6);
        Due.rule(x, "i=0");
        Due.is("the most", x.jam(4), 5);
        Due.row("the most", x, 4, 6);
        Due.is("60", x.jam(60), 5);
        Due.row("60", x, 60, 118);
        Due.rule(x, "1");
        Due.is("none waits", x.jam(60), 0);
        Due.row("none waits", x, 0, 0);
        Due.is("nothing has changed", x.count(3), 0);
    }

    private static void passes() {
        BehindAnotherHearse x = Due.scene("..........", "0;1;8", "", "3*(i=0)");
        Due.is("none such", x.passes(0, 3), -1);
        Due.is("none such", x.passes(-1, 0), -1);
        Due.is("like ones", x.passes(1, 1), -1);
        Due.is("not behind it", x.passes(1, 0), -2);
        Due.is("passes at once", x.passes(0, 1), 1);
        Due.row("passes at once", x, 3);
        Due.is("ARRIVES ahead of it", x.passes(0, 2), 3);
        Due.row("ARRIVES ahead of it", x, -1);
        Due.is("in none", x.passes(1, 2), -2);
        x.steps(3);
        Due.is("one has ARRIVED", x.passes(1, 0), -2);
        Due.is("one has ARRIVED", x.passes(0, 1), -2);
        Due.row("the ROW stays", x, 6, 0);
        BehindAnotherHearse y = Due.scene("....................", "0;8", "", "w*3*(i=0)");
        Due.weather(y, RARE);
        Due.is("in the last STEP", y.passes(0, 1), 60);
        Due.row("in the last STEP", y, 9);
        BehindAnotherHearse z = Due.scene("....................", "0;9", "", "w*3*(i=0)");
        Due.weather(z, RARE);
        Due.is("a STEP too late", z.passes(0, 1), -2);
    }
}
