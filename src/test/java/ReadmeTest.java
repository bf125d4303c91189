/** README.md's example, as it stands there, and its texts. */
public final class ReadmeTest {
    private ReadmeTest() {
    }

    public static void main(String[] args) {
        example();
        textsOfTheTable();
        Due.end();
    }

    private static void example() {
        BehindAnotherHearse x = new BehindAnotherHearse();
        x.sign(0x2E2E2E63);
        x.sign(0x2E2E2E2E);
        x.end(8);
        Due.is("avenue()", x.avenue(), 8);
        Due.is("count(7)", x.count(7), 1);
        x.sign(0x303B3200);
        x.end(3);
        Due.is("hearses()", x.hearses(), 2);
        x.sign(0x31610000);
        x.end(2);
        Due.is("mourners()", x.mourners(), 1);
        Due.is("steps(3)", x.steps(3), 1);
        Due.is("right()", x.right(), 1);
        Due.is("row(0)", x.row(0), 1);
        Due.is("undo()", x.undo(), 0);
    }

    private static void textsOfTheTable() {
        BehindAnotherHearse x = new BehindAnotherHearse();
        Due.is("a long avenue", Due.avenue(x, "...c.........."), 14);
        Due.is("hearses 0;2;11", Due.hearses(x, "0;2;11"), 3);
        Due.is("mourners 1b;4a", Due.mourners(x, "1b;4a"), 2);
        Due.is("weather 0092", Due.weather(x, "0092"), 4);
        Due.is("rule 1+(g>2)", Due.rule(x, "1+(g>2)"), 0);
        Due.is("law 1+(g>2)", Due.law(x, "1+(g>2)"), 0);
        Due.is("hour n1t0p12x01", Due.hour(x, "n1t0p12x01"), 4);
        Due.row("hour n1t0p12x01", x, 0, 1);
    }
}
