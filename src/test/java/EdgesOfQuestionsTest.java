/** Boundary cases of the line and of who ends where (promises 18 to 30): a method for each sentence. */
public final class EdgesOfQuestionsTest {
    private static final int LEAST = -2147483648;
    private static final int MOST = 2147483647;
    /** By the rule w a hearse goes in every twentieth STEP alone. */
    private static final String RARE = "00000000000000000001";

    public static void main(String[] args) {
        lineOfNoneToSix();
        aheadOfNoneToNinetyNine();
        arrivesInNoneToTwoHundred();
        jamOfOneToSixty();
        jamOfEqualOnes();
        passesInOneToSixty();
        passesThatCantBe();
        passesByArriving();
        endsAtOnceOrNowhere();
        rightOfNoneAndAll();
        orderWithoutHearses();
        orderOfAsGoodOnes();
        standsFromTheFirstToTheLast();
        standsFromNone();
        whenOfNoneToSixty();
        whenItNeedNotTurn();
        whenItCantTurn();
        mendsOfNoneToEight();
        mendsOfAsFewTheLeast();
        misleadsOfEqualOnes();
        misleadsWithoutItsOwn();
        misleadsWithoutHearses();
        crowdOfEqualOnes();
        crowdWithoutHearses();
        questionsOneBehindAnother();
        Due.end();
    }

    private static BehindAnotherHearse rare(int cells, String hearses, String mourners, String rule, int steps) {
        BehindAnotherHearse x = Due.scene(".".repeat(cells), hearses, mourners, rule);
        Due.weather(x, RARE);
        x.steps(steps % 20);
        return x;
    }

    // ---- promises 18 to 22

    private static void lineOfNoneToSix() {
        BehindAnotherHearse x = new BehindAnotherHearse();
        Due.is("no HEARSES", x.line(), 0);
        Due.row("no HEARSES", x);
        BehindAnotherHearse y = Due.scene("..............................", "0;28;1;27;9;10", "", "0");
        Due.is("six", y.line(), 6);
        Due.row("the one that is ahead first", y, 1, 3, 5, 4, 2, 0);
        Due.rule(y, "i=1");
        y.steps(2);
        Due.is("five are on THE AVENUE", y.line(), 5);
        Due.row("five are on THE AVENUE", y, 3, 5, 4, 2, 0);
        Due.rule(y, "3");
        y.steps(60);
        Due.is("all have ARRIVED", y.line(), 0);
        Due.row("all have ARRIVED", y);
    }

    private static void aheadOfNoneToNinetyNine() {
        BehindAnotherHearse x = rare(6, "0;3", "", "w", 0);
        for (int n : new int[] {LEAST, -1, 100, MOST}) {
            Due.is("ahead(" + n + ")", x.ahead(n), -1);
            Due.is("the ROW of steps(0) stays", x.count(11), 2);
        }
        Due.is("ahead(0)", x.ahead(0), 0);
        Due.row("ahead(0)", x, 0, 3);
        Due.is("ahead(19)", x.ahead(19), 0);
        Due.row("ahead(19)", x, 0, 3);
        Due.is("ahead(20)", x.ahead(20), 0);
        Due.row("ahead(20)", x, 1, 4);
        Due.is("ahead(99)", x.ahead(99), 1);
        Due.row("ahead(99)", x, 4, -1);
        x.steps(1);
        Due.is("ahead(99): the hundredth STEP", x.ahead(99), 2);
        Due.row("ahead(99): the hundredth STEP", x, -1, -1);
        Due.is("ahead(98)", x.ahead(98), 1);
        Due.is("STEP is as it was", x.count(3), 1);
        BehindAnotherHearse y = new BehindAnotherHearse();
        Due.is("no HEARSES", y.ahead(99), 0);
        Due.row("no HEARSES", y);
    }

    private static void arrivesInNoneToTwoHundred() {
        for (int steps = 0; steps < 20; steps++) {
            // ten CELLS to go by one in each twentieth STEP: 200 less those that are done
            BehindAnotherHearse x = rare(11, "0", "", "w", steps);
            Due.is("in " + (200 - steps), x.arrives(0), 200 - steps);
            Due.row("in " + (200 - steps), x, 1);
            BehindAnotherHearse y = rare(12, "0", "", "w", steps);
            Due.is("in " + (220 - steps), y.arrives(0), -2);
        }
        BehindAnotherHearse z = rare(12, "0", "", "w", 0);
        z.steps(20);
        Due.is("in 200", z.arrives(0), 200);
        BehindAnotherHearse w = Due.scene("....", "2;1", "", "1");
        Due.is("in 1", w.arrives(0), 1);
        Due.row("in 1", w, 1);
        Due.is("in 2", w.arrives(1), 2);
        Due.row("in 2", w, 2);
        w.steps(2);
        for (int h = 0; h < 2; h++) {
            Due.is("0: it has", w.arrives(h), 0);
            Due.row("0: it has", w, h + 1);
        }
        for (int h : new int[] {LEAST, -1, 2, 6, MOST}) {
            Due.is("none such: " + h, w.arrives(h), -1);
        }
        Due.row("the ROW stays", w, 2);
    }

    private static void jamOfOneToSixty() {
        BehindAnotherHearse x = Due.scene("......", "1;4", "", "0");
        for (int n : new int[] {LEAST, -1, 0, 61, MOST}) {
            Due.is("jam(" + n + ")", x.jam(n), -1);
            Due.is("no ROW", x.count(11), 0);
        }
        Due.is("jam(1)", x.jam(1), 1);
        Due.row("jam(1)", x, 1, 2);
        Due.is("jam(60)", x.jam(60), 1);
        Due.row("jam(60)", x, 60, 120);
    }

    private static void jamOfEqualOnes() {
        BehindAnotherHearse x = Due.scene("......", "4;0", "", "0");
        Due.is("of equal ones the first: CELL 0", x.jam(7), 0);
        Due.row("of equal ones the first: CELL 0", x, 7, 14);
        Due.rule(x, "t<1");
        Due.is("one CELL on, from the second STEP on", x.jam(7), 1);
        Due.row("one CELL on, from the second STEP on", x, 6, 6);
        Due.rule(x, "3");
        Due.is("none WAITS: CELL 0", x.jam(60), 0);
        Due.row("none WAITS: CELL 0", x, 0, 0);
        // on the last CELL ahead of THE GATE
        BehindAnotherHearse y = Due.scene("......", "4", "", "0");
        Due.is("the one ahead of THE GATE", y.jam(2), 4);
        Due.row("the one ahead of THE GATE", y, 2, 2);
    }

    private static void passesInOneToSixty() {
        BehindAnotherHearse x = Due.scene("..............................", "0;1", "", "2*(i=0)");
        Due.is("in 1", x.passes(0, 1), 1);
        Due.row("in 1", x, 2);
        for (int steps = 0; steps < 20; steps++) {
            // CELL 9 behind three goes of 3 CELLS, each in a twentieth STEP
            BehindAnotherHearse y = rare(20, "0;8", "", "w*3*(i=0)", steps);
            Due.is("in " + (60 - steps), y.passes(0, 1), 60 - steps);
            Due.row("in " + (60 - steps), y, 9);
            BehindAnotherHearse z = rare(20, "0;9", "", "w*3*(i=0)", steps);
            Due.is("in " + (80 - steps), z.passes(0, 1), -2);
        }
        BehindAnotherHearse z = rare(20, "0;9", "", "w*3*(i=0)", 0);
        z.steps(20);
        Due.is("in 60", z.passes(0, 1), 60);
        Due.row("in 60", z, 11);
        // it is ahead in the first STEP, behind in the third, and ahead again in the fourth
        BehindAnotherHearse w = Due.scene("....................", "0;1", "", "2*(t<1)*(1-i)+3*i*(t=2)+3*(t>2)*(1-i)");
        Due.is("the first time", w.passes(0, 1), 1);
        Due.row("the first time", w, 2);
    }

    private static void passesThatCantBe() {
        BehindAnotherHearse x = Due.scene("..........", "0;1;8", "", "i=2");
        for (int h : new int[] {LEAST, -1, 3, 6, MOST}) {
            Due.is("none such: " + h, x.passes(h, 0), -1);
            Due.is("none such: " + h, x.passes(0, h), -1);
            Due.is("none such, like ones: " + h, x.passes(h, h), -1);
        }
        Due.is("like ones", x.passes(1, 1), -1);
        Due.is("in none", x.passes(0, 1), -2);
        Due.is("not behind it", x.passes(1, 0), -2);
        x.steps(1);
        Due.is("the first has ARRIVED", x.passes(2, 0), -2);
        Due.is("the second has ARRIVED", x.passes(0, 2), -2);
        Due.is("like ones, ARRIVED", x.passes(2, 2), -1);
        Due.row("the ROW stays", x, 2, 0);
    }

    private static void passesByArriving() {
        // both come to THE GATE in one STEP, the one that was ahead first: it is never passed
        BehindAnotherHearse x = Due.scene("....", "1;2", "", "3");
        Due.is("both ARRIVE, the other one first", x.passes(0, 1), -2);
        BehindAnotherHearse y = Due.scene("....", "1;2", "", "3*(i=0)");
        Due.is("it ARRIVES, the other one never", y.passes(0, 1), 1);
        Due.row("it ARRIVES, the other one never", y, -1);
        // the other one ARRIVES first, and this one behind it
        BehindAnotherHearse z = Due.scene("......", "0;3", "", "1");
        Due.is("it ARRIVES later", z.passes(0, 1), -2);
    }

    // ---- promises 23 to 30

    private static void endsAtOnceOrNowhere() {
        BehindAnotherHearse x = Due.scene("......", "4;0", "4a;0a", "i=0");
        for (int m : new int[] {LEAST, -1, 2, 8, MOST}) {
            Due.is("none such: " + m, x.ends(m), -1);
        }
        Due.is("nowhere", x.ends(0), -2);
        Due.is("no ROW", x.count(11), 0);
        x.turnsTo(0);
        Due.is("in one STEP", x.ends(0), 0);
        Due.row("in one STEP: no change", x, 1, 0);
        x.steps(1);
        Due.is("it has ENDED already", x.ends(0), 0);
        Due.row("it has ENDED already", x, 0, 0);
        Due.is("the other one nowhere", x.ends(1), -2);
        Due.row("the ROW stays", x, 0, 0);
        for (int steps = 0; steps < 20; steps++) {
            BehindAnotherHearse y = rare(11, "0", "0a", "w", steps);
            Due.is("in " + (200 - steps), y.ends(0), 0);
            Due.row("in " + (200 - steps), y, 200 - steps, steps == 0 ? 1 : 0);
            Due.is("in " + (220 - steps), rare(12, "0", "0a", "w", steps).ends(0), -2);
        }
    }

    private static void rightOfNoneAndAll() {
        BehindAnotherHearse x = new BehindAnotherHearse();
        Due.is("none", x.right(), 0);
        Due.row("none", x, 0, 0);
        BehindAnotherHearse y = Due.scene("......", "1", "1a;1a;1a;1a;1a;1a;1a;1a", "1");
        Due.is("all eight", y.right(), 8);
        Due.row("all eight", y, 255, 0);
        BehindAnotherHearse z = Due.scene("......", "1;0", "1b;1b;1b;1b;1b;1b;1b;1b", "i=0");
        Due.is("all at another one", z.right(), 0);
        Due.row("all at another one", z, 0, 255);
        Due.rule(z, "0");
        Due.is("nowhere", z.right(), 0);
        Due.row("nowhere", z, 0, 0);
    }

    private static void orderWithoutHearses() {
        BehindAnotherHearse x = new BehindAnotherHearse();
        Due.is("no HEARSES", x.order(), 0);
        Due.row("no HEARSES", x);
        BehindAnotherHearse y = Due.scene("......", "4;3", "4a;3b;0b", "1");
        y.steps(60);
        Due.is("all have ARRIVED: as many as have ENDED right", y.order(), 2);
        Due.row("all have ARRIVED", y);
        BehindAnotherHearse z = Due.scene("......", "4;3", "3b", "1");
        z.steps(1);
        Due.is("one alone", z.order(), 1);
        Due.row("one alone: its CELL", z, 4);
    }

    private static void orderOfAsGoodOnes() {
        BehindAnotherHearse x = Due.scene("..............", "10;8;6;4;2;0", "", "1");
        Due.is("of as good ones the least row", x.order(), 0);
        Due.row("of as good ones the least row", x, 0, 2, 4, 6, 8, 10);
        BehindAnotherHearse y = Due.scene("..............", "0;2;4;6;8;10", "10a", "1");
        Due.is("one that matters", y.order(), 1);
        Due.row("one that matters", y, 10, 0, 2, 4, 6, 8);
        Due.is("as it is", y.right(), 0);
        Due.is("changed so it is right", y.swaps(0, 5) + y.right(), 11);
        Due.is("asked again", y.order(), 1);
        Due.row("asked again", y, 10, 0, 2, 4, 6, 8);
        BehindAnotherHearse z = Due.scene("..............", "10;8;6;4;2;0", "10a;8b", "0");
        Due.is("none is right by any", z.order(), 0);
        Due.row("the least row, though none is right", z, 0, 2, 4, 6, 8, 10);
        BehindAnotherHearse w = Due.scene("..............", "0;2;4;6;8;10", "10a;8b;6c;4d;2e;0f;0f;0f", "1");
        Due.is("the last order of all", w.order(), 8);
        Due.row("the last order of all", w, 10, 8, 6, 4, 2, 0);
    }

    private static void standsFromTheFirstToTheLast() {
        for (int cells = 4; cells <= 30; cells++) {
            BehindAnotherHearse x = Due.scene(".".repeat(cells), "0", "1a", "1");
            Due.is("from 0 of " + cells, x.stands(0), 0);
            Due.row("every CELL but THE GATE", x, cells - 1);
            Due.is("it stands where it stood", x.mourner(0, 0), 1);
            BehindAnotherHearse y = Due.scene(".".repeat(cells), "0;" + (cells - 2), "0a;0b", "0");
            Due.rule(y, "t>0");
            y.stands(1);
            Due.row("those nearer to the one ahead, or as near", y, cells / 2);
        }
        BehindAnotherHearse z = Due.scene("..........", "7;0", "0a", "i=0");
        Due.is("only the last ones", z.stands(0), 4);
        Due.row("only the last ones", z, 5);
        // on CELL 4 it is as near to both, and if it FOLLOWED none, it would FOLLOW the one that is ahead
        BehindAnotherHearse w = Due.scene("..........", "2;6", "4a", "t>0");
        w.turnsTo(0);
        Due.is("it ends right, since it FOLLOWS its OWN", w.right(), 1);
        Due.is("FOLLOWING none", w.stands(0), 0);
        Due.row("FOLLOWING none", w, 4);
        Due.is("it FOLLOWS as it did", w.mourner(0, 2), 0);
    }

    private static void standsFromNone() {
        BehindAnotherHearse x = Due.scene("......", "3;0", "3a;0b", "i=0");
        for (int m : new int[] {LEAST, -1, 2, 8, MOST}) {
            Due.is("none such: " + m, x.stands(m), -1);
        }
        Due.is("from none: its OWN never ARRIVES", x.stands(1), -2);
        x.turnsTo(0);
        x.steps(2);
        Due.is("it has ENDED at its OWN", x.stands(0), -2);
        Due.row("the ROW stays", x, 2, 1);
    }

    private static void whenOfNoneToSixty() {
        // its OWN ARRIVES in STEP 260 - steps: behind 200 STEPS from n = 60 - steps on
        for (int steps = 0; steps < 20; steps++) {
            BehindAnotherHearse x = rare(14, "0", "0a", "w", steps);
            Due.is("in " + (60 - steps), x.when(0), 60 - steps);
            Due.row("in " + (60 - steps), x, 60);
            Due.is("in " + (80 - steps), rare(15, "0", "0a", "w", steps).when(0), -2);
        }
        BehindAnotherHearse y = rare(15, "0", "0a", "w", 0);
        y.steps(19);
        Due.is("in 61", y.when(0), -2);
        y.steps(1);
        Due.is("in 60", y.when(0), 60);
        Due.row("in 60", y, 60);
        BehindAnotherHearse z = rare(11, "0", "0a", "w", 0);
        Due.is("at once", z.when(0), 0);
        Due.row("at once, and till sixty", z, 60);
        Due.is("nothing has changed", z.mourner(0, 2) + z.count(3), -1);
    }

    private static void whenItNeedNotTurn() {
        // from the first STEP on it FOLLOWS its OWN, which ARRIVES in the fifth
        BehindAnotherHearse x = Due.scene("......", "0", "0a", "1");
        Due.is("it need not turn", x.when(0), 0);
        Due.row("till its OWN has ARRIVED", x, 4);
        x.turnsTo(0);
        Due.is("it FOLLOWS it now", x.when(0), 0);
        Due.row("it FOLLOWS it now", x, 4);
    }

    private static void whenItCantTurn() {
        BehindAnotherHearse x = Due.scene("......", "4;0", "0a;3b", "i=0");
        for (int m : new int[] {LEAST, -1, 2, 8, MOST}) {
            Due.is("none such: " + m, x.when(m), -1);
        }
        Due.is("now alone: its OWN ARRIVES in the first STEP", x.when(0), 0);
        Due.row("now alone", x, 0);
        Due.is("by none: its OWN never ARRIVES", x.when(1), -2);
        x.steps(1);
        Due.is("its OWN has ARRIVED", x.when(0), -2);
        BehindAnotherHearse y = Due.scene("......", "3;0", "3b", "i=0");
        y.steps(2);
        Due.is("it has ENDED at another one", y.when(0), -2);
        Due.row("the ROW stays", y, 2, 1);
    }

    private static void mendsOfNoneToEight() {
        BehindAnotherHearse x = Due.scene("......", "3;1", "3a;3b;3a;3b;3a;3b;3a;3b", "1");
        for (int k : new int[] {LEAST, -1, 9, MOST}) {
            Due.is("mends(" + k + ")", x.mends(k), -1);
        }
        x.steps(1);
        int[] turns = {0, 2, 10, 42, 170};
        for (int k = 0; k <= 8; k++) {
            int turned = Math.max(0, k - 4);
            Due.is("mends(" + k + ")", x.mends(k), turned);
            Due.row("mends(" + k + ")", x, turns[turned]);
        }
        Due.is("nothing has changed", x.hearse(0, 3), 255);
        BehindAnotherHearse y = Due.scene("......", "3;1", "3a;3b;3a;3b;3a;3b;3a", "1");
        y.steps(1);
        Due.is("all seven", y.mends(7), 3);
        Due.is("more than there are", y.mends(8), -2);
        Due.row("the ROW stays", y, 42);
    }

    private static void mendsOfAsFewTheLeast() {
        BehindAnotherHearse x = Due.scene("......", "3;1", "3b;3b;3b;3b;3b;3b;3b;3b", "1");
        x.steps(1);
        for (int k = 1; k <= 8; k++) {
            Due.is("mends(" + k + ")", x.mends(k), k);
            Due.row("of as few the least: " + k, x, (1 << k) - 1);
        }
        BehindAnotherHearse y = Due.scene("......", "3;1", "1b;3a;1a", "i=0");
        Due.is("it can't be so: its OWN never ARRIVES", y.mends(3), -2);
        y.steps(2);
        Due.is("one has ENDED at its OWN", y.count(6), 1);
        Due.is("who have ENDED count", y.mends(1), 0);
        Due.is("they can't turn", y.mends(3), -2);
    }

    private static void misleadsOfEqualOnes() {
        BehindAnotherHearse x = Due.scene("..............", "0;2;4;6;8;10", "", "1");
        Due.is("of equal ones the first", x.misleads(), 0);
        Due.row("of equal ones the first", x, 0, 0);
        Due.rule(x, "3*(i=0)+3*(i=5)");
        x.steps(60);
        Due.is("the first that is on THE AVENUE", x.misleads(), 1);
        Due.row("the first that is on THE AVENUE", x, 0, 0);
    }

    private static void misleadsWithoutItsOwn() {
        // without hearse 0 its own mourner does not count, without hearse 1 that one is right
        BehindAnotherHearse x = Due.scene("........", "3;5", "5a", "1");
        Due.is("as it is", x.right(), 0);
        Due.is("without hearse 1", x.misleads(), 1);
        Due.row("without hearse 1", x, 1, 0);
        BehindAnotherHearse y = Due.scene("........", "3;5", "3a;3a", "1");
        Due.is("as it is", y.right(), 2);
        Due.is("but those whose OWN it is", y.misleads(), 1);
        Due.row("but those whose OWN it is", y, 2, 2);
        // who has ENDED at its OWN counts in both
        y.steps(60);
        Due.hearses(y, "0;1");
        Due.is("who has ENDED counts", y.misleads(), 2);
        Due.row("who has ENDED counts", y, 2, 2);
        // who FOLLOWS it FOLLOWS none then, so it does not end there
        BehindAnotherHearse z = Due.scene("........", "5;3", "5b", "1");
        z.steps(1);
        Due.is("it FOLLOWS hearse 0", z.mourner(0, 2), 0);
        Due.is("nobody ends there", z.misleads(), 0);
        Due.row("nobody ends there", z, 1, 0);
    }

    private static void misleadsWithoutHearses() {
        BehindAnotherHearse z = Due.scene("........", "3;5", "3a;3a;3a;3a;3a;3a;3a;3a", "1");
        Due.is("eight MOURNERS", z.misleads(), 1);
        Due.row("eight MOURNERS", z, 8, 8);
        BehindAnotherHearse x = new BehindAnotherHearse();
        Due.is("no HEARSES", x.misleads(), -2);
        Due.is("no ROW", x.count(11), 0);
        BehindAnotherHearse y = Due.scene("......", "3;4", "3a", "1");
        y.steps(1);
        Due.is("one is on THE AVENUE", y.misleads(), 0);
        Due.row("one is on THE AVENUE", y, 0, 0);
        y.steps(1);
        Due.is("none is on THE AVENUE", y.misleads(), -2);
        Due.row("the ROW stays", y, 0, 0);
    }

    private static void crowdOfEqualOnes() {
        BehindAnotherHearse x = Due.scene("..............", "0;2;4;6;8;10", "", "1");
        Due.is("none: the first", x.crowd(), 0);
        Due.row("none: the first", x, 0, 0);
        BehindAnotherHearse w = Due.scene("......", "2;3", "2b;4a", "1");
        Due.is("one is not more than one", w.crowd(), 0);
        Due.row("one is not more than one", w, 1, 0);
        BehindAnotherHearse y = Due.scene("......", "2;3", "2a;4b;4a", "1");
        Due.is("the most", y.crowd(), 1);
        Due.row("the most: one is its OWN", y, 2, 1);
        BehindAnotherHearse z = Due.scene("......", "3", "3a;3a;3a;3a;3a;3a;3a;3a", "1");
        z.crowd();
        Due.row("all eight", z, 8, 8);
    }

    private static void crowdWithoutHearses() {
        BehindAnotherHearse x = new BehindAnotherHearse();
        Due.is("no HEARSES", x.crowd(), -2);
        Due.is("no ROW", x.count(11), 0);
        BehindAnotherHearse y = Due.scene("......", "3", "3a", "1");
        y.steps(60);
        Due.is("one that has ARRIVED", y.crowd(), 0);
        Due.row("one that has ARRIVED", y, 1, 1);
        Due.avenue(y, "....");
        Due.is("no HEARSES any more", y.crowd(), -2);
    }

    private static final int QUESTIONS = 26;

    /** "Questions change nothing": each answers behind each other one as it does alone. */
    private static void questionsOneBehindAnother() {
        for (int kind = 1; kind < Twins.KINDS; kind++) {
            for (int q = 0; q < QUESTIONS; q++) {
                String alone = asked(Twins.build(kind), q);
                BehindAnotherHearse x = Twins.build(kind);
                for (int other = 0; other < QUESTIONS; other++) {
                    asked(x, other);
                    Due.is(Twins.NAMES[kind] + ": question " + q + " behind " + other, asked(x, q).equals(alone), true);
                    if (x.count(11) > 0 && other % 6 == 5) {
                        x = Twins.build(kind);
                    }
                }
            }
        }
    }

    /** The answer and its ROW; a ROW that a question leaves is not its own. */
    private static String asked(BehindAnotherHearse x, int q) {
        x.rests(10);
        StringBuilder all = new StringBuilder().append(answer(x, q));
        for (int i = 0; i < x.count(11); i++) {
            all.append(' ').append(x.row(i));
        }
        return all.toString();
    }

    private static int answer(BehindAnotherHearse x, int q) {
        switch (q) {
            case 0: return x.line();
            case 1: return x.ahead(3);
            case 2: return x.ahead(99);
            case 3: return x.arrives(0);
            case 4: return x.arrives(1);
            case 5: return x.jam(4);
            case 6: return x.jam(60);
            case 7: return x.passes(0, 1);
            case 8: return x.passes(1, 0);
            case 9: return x.ends(0);
            case 10: return x.ends(1);
            case 11: return x.right();
            case 12: return x.order();
            case 13: return x.stands(0);
            case 14: return x.stands(2);
            case 15: return x.when(1);
            case 16: return x.mends(2);
            case 17: return x.misleads();
            case 18: return x.crowd();
            case 19: return x.shares(2);
            case 20: return x.strangers();
            case 21: return x.doubts();
            case 22: return x.fits();
            case 23: return Due.law(x, "3");
            case 24: return x.years(7, 30);
            default: return x.rains(3, 2, 5);
        }
    }
}
