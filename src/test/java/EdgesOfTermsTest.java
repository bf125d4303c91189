/** Boundary cases that the document's Terms name: a method for each sentence. */
public final class EdgesOfTermsTest {
    private static final String[] LETTERS = {"a", "b", "c", "d", "e", "f"};
    /** By the rule w a hearse goes in every twentieth STEP alone. */
    private static final String RARE = "00000000000000000001";

    public static void main(String[] args) {
        avenueOfFourToThirtyCells();
        avenueAtFirst();
        lastCellIsTheGate();
        atMostSixHearses();
        noTwoHearsesOnOneCell();
        arrivedAsTheNextOne();
        cellOfOneOrTwoDigits();
        atMostEightMourners();
        manyMournersOnOneCell();
        ownIsALetterOfOneThatIsThere();
        mournersAtFirst();
        weatherOfOneToTwentySigns();
        weatherAtFirst();
        weatherComesRound();
        stepAtFirst();
        ruleOfAtMostFortySigns();
        ruleAtFirst();
        expressions();
        steps();
        Due.end();
    }

    private static BehindAnotherHearse withAvenue(int cells) {
        BehindAnotherHearse x = new BehindAnotherHearse();
        Due.avenue(x, ".".repeat(cells));
        return x;
    }

    private static void avenueOfFourToThirtyCells() {
        for (int cells = 0; cells <= 33; cells++) {
            int want = cells < 4 ? -1 - cells : cells > 30 ? -31 : cells;
            Due.is(cells + " CELLS", Due.avenue(new BehindAnotherHearse(), ".".repeat(cells)), want);
            Due.is(cells + " CORNERS", Due.avenue(new BehindAnotherHearse(), "c".repeat(cells)), want);
        }
    }

    private static void avenueAtFirst() {
        BehindAnotherHearse x = new BehindAnotherHearse();
        Due.is("at first four CELLS", x.count(0), 4);
        Due.is("at first no CORNERS", x.count(7), 0);
        Due.is("at first THE GATE is 3", Due.hearses(x, "3"), -1);
        Due.is("at first 2 is a CELL", Due.hearses(x, "2"), 1);
    }

    private static void lastCellIsTheGate() {
        for (int cells = 4; cells <= 30; cells++) {
            BehindAnotherHearse x = withAvenue(cells);
            int digits = cells - 1 < 10 ? 1 : 2;
            Due.is("no hearse on THE GATE of " + cells, Due.hearses(x, "" + (cells - 1)), -digits);
            Due.is("no hearse beyond THE GATE of " + cells, Due.hearses(x, "" + cells), cells < 10 ? -1 : -2);
            Due.is("one ahead of THE GATE of " + cells, Due.hearses(x, "" + (cells - 2)), 1);
            Due.is("no mourner on THE GATE of " + cells, Due.mourners(x, (cells - 1) + "a"), -digits);
            Due.is("a mourner ahead of THE GATE of " + cells, Due.mourners(x, (cells - 2) + "a"), 1);
            Due.is("its CELL", x.hearse(0, 0) * 100 + x.mourner(0, 0), (cells - 2) * 101);
            Due.is("one STEP to THE GATE of " + cells, x.steps(1), 1);
            Due.is("ARRIVED", x.hearse(0, 0), -1);
        }
    }

    private static void atMostSixHearses() {
        for (int told = 0; told <= 6; told++) {
            BehindAnotherHearse x = withAvenue(30);
            for (int h = 0; h < told; h++) {
                Due.is("hearse " + h, Due.hearses(x, "" + h), 1);
            }
            StringBuilder more = new StringBuilder();
            for (int h = told; h < 7; h++) {
                more.append(h == told ? "" : ";").append(h);
            }
            Due.is("a seventh behind " + told, Due.hearses(x, more.toString()), -1 - 2 * (6 - told));
            Due.is("none of them came", x.count(1), told);
            String six = told == 6 ? "" : more.substring(0, more.length() - 2);
            Due.is("six in all", Due.hearses(x, six), 6 - told);
            Due.is("six", x.count(1), 6);
        }
    }

    private static void noTwoHearsesOnOneCell() {
        BehindAnotherHearse x = withAvenue(12);
        Due.is("like ones in one text", Due.hearses(x, "5;5"), -3);
        Due.is("like ones, told otherwise", Due.hearses(x, "5;05"), -4);
        Due.is("10 and 10", Due.hearses(x, "10;10"), -5);
        Due.is("0 and 00", Due.hearses(x, "0;00"), -4);
        Due.is("5", Due.hearses(x, "5"), 1);
        Due.is("5 again", Due.hearses(x, "5"), -1);
        Due.is("05 again", Due.hearses(x, "05"), -2);
        Due.is("on both sides", Due.hearses(x, "4;6"), 2);
    }

    private static void arrivedAsTheNextOne() {
        BehindAnotherHearse x = Due.scene(".........", "7;6;5;4;3;2", "", "3");
        Due.is("at first none has ARRIVED", x.count(4), 0);
        Due.is("three in one STEP", x.steps(1), 3);
        Due.is("six in two", x.steps(1), 6);
        for (int h = 0; h < 6; h++) {
            Due.is("as which hearse " + h + " ARRIVED", x.hearse(h, 1), h + 1);
        }
        Due.is("none more", x.steps(60), 6);
    }

    private static void cellOfOneOrTwoDigits() {
        BehindAnotherHearse x = withAvenue(30);
        Due.is("no digit", Due.hearses(x, ";1"), -1);
        Due.is("three digits", Due.hearses(x, "001"), -3);
        Due.is("0", Due.hearses(x, "0"), 1);
        Due.is("01", Due.hearses(x, "01"), 1);
        Due.is("28", Due.hearses(x, "28"), 1);
        Due.is("their CELLS", x.hearse(0, 0) * 10000 + x.hearse(1, 0) * 100 + x.hearse(2, 0), 128);
        Due.is("no digit of a mourner", Due.mourners(x, "a"), -1);
        Due.is("three digits of a mourner", Due.mourners(x, "001a"), -3);
        Due.is("mourners on 0, 00, 28", Due.mourners(x, "0a;00b;28c"), 3);
        Due.is("their CELLS", x.mourner(0, 0) + x.mourner(1, 0) + x.mourner(2, 0), 28);
    }

    private static void atMostEightMourners() {
        for (int told = 0; told <= 8; told++) {
            BehindAnotherHearse x = withAvenue(30);
            Due.hearses(x, "3");
            for (int m = 0; m < told; m++) {
                Due.is("mourner " + m, Due.mourners(x, m + "a"), 1);
            }
            String more = "4a" + ";4a".repeat(8 - told);
            Due.is("a ninth behind " + told, Due.mourners(x, more), -1 - 3 * (8 - told));
            Due.is("none of them came", x.count(2), told);
            Due.is("eight in all", Due.mourners(x, told == 8 ? "" : more.substring(3)), 8 - told);
            Due.is("eight", x.count(2), 8);
        }
    }

    private static void manyMournersOnOneCell() {
        BehindAnotherHearse x = Due.scene("....", "1", "1a;1a;1a;01a;1a;1a;1a;1a", "1");
        Due.is("eight on one CELL, a hearse too", x.count(2), 8);
        x.steps(2);
        Due.is("all eight ENDED at it", x.hearse(0, 4), 255);
        Due.is("all eight at their OWN", x.hearse(0, 5), 255);
    }

    private static void ownIsALetterOfOneThatIsThere() {
        for (int hearses = 0; hearses <= 6; hearses++) {
            BehindAnotherHearse x = withAvenue(30);
            for (int h = 0; h < hearses; h++) {
                Due.hearses(x, "" + h);
            }
            for (int h = 0; h < 6; h++) {
                int want = h < hearses ? 1 : -2;
                Due.is(LETTERS[h] + " of " + hearses, Due.mourners(x, "7" + LETTERS[h]), want);
            }
            for (String other : new String[] {"g", "`", "A", "z", ";", "{", "\u00e1"}) {
                Due.is("OWN is " + other, Due.mourners(x, "7" + other), -2);
            }
            for (int m = 0; m < x.count(2); m++) {
                Due.is("OWN of mourner " + m, x.mourner(m, 1), m);
            }
        }
    }

    private static void mournersAtFirst() {
        BehindAnotherHearse x = Due.scene("....", "1", "1a", "1");
        Due.is("at first FOLLOWING none", x.mourner(0, 2), -1);
        Due.is("at first not ENDED", x.mourner(0, 3), -1);
        Due.is("nobody FOLLOWS, nobody ENDED", x.hearse(0, 3) + x.hearse(0, 4), 0);
    }

    private static void weatherOfOneToTwentySigns() {
        for (int signs = 0; signs <= 22; signs++) {
            int want = signs == 0 ? -1 : signs > 20 ? -21 : signs;
            Due.is("weather of " + signs, Due.weather(new BehindAnotherHearse(), "7".repeat(signs)), want);
        }
        BehindAnotherHearse x = new BehindAnotherHearse();
        for (int sign = 0; sign < 256; sign++) {
            boolean isDigit = sign >= '0' && sign <= '9';
            Due.is("weather of sign " + sign, Due.weather(x, "" + (char) sign), isDigit ? 1 : -1);
            Due.is("weather now", x.count(8), sign < '0' ? 0 : isDigit ? sign - '0' : 9);
        }
    }

    private static void weatherAtFirst() {
        BehindAnotherHearse x = new BehindAnotherHearse();
        for (int step = 0; step < 25; step++) {
            Due.is("at first 0", x.count(8), 0);
            x.steps(1);
        }
    }

    private static void weatherComesRound() {
        String digits = "12345678909876543210";
        for (int signs = 1; signs <= 20; signs++) {
            BehindAnotherHearse x = new BehindAnotherHearse();
            Due.weather(x, digits.substring(0, signs));
            for (int step = 0; step < 42; step++) {
                Due.is("of STEP " + step + " by " + signs, x.count(8), digits.charAt(step % signs) - '0');
                x.steps(1);
            }
        }
    }

    private static void stepAtFirst() {
        BehindAnotherHearse x = new BehindAnotherHearse();
        Due.is("STEP at first", x.count(3), 0);
        x.steps(60);
        Due.is("STEP without hearses", x.count(3), 60);
    }

    private static void ruleOfAtMostFortySigns() {
        BehindAnotherHearse x = Due.scene("....", "0", "", "");
        for (int signs = 1; signs <= 80; signs++) {
            String text = "-".repeat(signs - 1) + "2";
            Due.is("a rule of " + signs, Due.rule(x, text), signs <= 40 ? 0 : -41);
            int pace = signs > 40 ? 0 : signs % 2 == 1 ? 2 : 0;
            Due.is("PACE by " + signs, x.hearse(0, 2), pace);
        }
    }

    private static void ruleAtFirst() {
        for (String text : new String[] {null, ""}) {
            BehindAnotherHearse x = withAvenue(30);
            if (text != null) {
                Due.rule(x, "3");
                Due.is("none", Due.rule(x, text), 0);
            }
            Due.hearses(x, "26;20;17;15;14;13");
            int[] want = {2, 2, 1, 1, 1, 1};
            for (int h = 0; h < 6; h++) {
                Due.is("1+(g>2) of hearse " + h, x.hearse(h, 2), want[h]);
            }
            x.steps(1);
            Due.is("g is 1 for hearse 0 on 28, 3 up to THE GATE on 26", x.hearse(0, 0), 28);
            Due.is("g is 1 now", x.hearse(0, 2), 1);
        }
        BehindAnotherHearse y = Due.scene("......", "2", "", "");
        Due.is("3 up to THE GATE", y.hearse(0, 2), 2);
        BehindAnotherHearse z = Due.scene("......", "3", "", "");
        Due.is("2 up to THE GATE", z.hearse(0, 2), 1);
    }

    // ---- expressions

    private static void expressions() {
        compareTwo();
        sumsFromTheLeft();
        productsFromTheLeft();
        dividedByNothing();
        cutToNothing();
        anyManySigns();
        numbersOfOneToThreeDigits();
        fourBracketsInOneAnother();
        asInts();
        paceOfNoneToThree();
        things();
    }

    private static int pace(String rule) {
        BehindAnotherHearse x = Due.scene("......", "2", "", rule);
        return x.hearse(0, 2);
    }

    private static int fault(String rule) {
        BehindAnotherHearse x = Due.scene("......", "2", "", "3");
        int answer = Due.rule(x, rule);
        Due.is(rule + " leaves THE RULE", x.hearse(0, 2), 3);
        return answer;
    }

    private static void compareTwo() {
        String[] signs = {"<", ">", "="};
        for (int one = 0; one <= 2; one++) {
            for (String sign : signs) {
                boolean holds = sign.equals("<") ? one < 1 : sign.equals(">") ? one > 1 : one == 1;
                Due.is(one + sign + "1", pace("2*(" + one + sign + "1)"), holds ? 2 : 0);
                Due.is(one + sign + "1 answers 1 or 0", pace("(" + one + sign + "1)+1"), holds ? 2 : 1);
            }
        }
        for (String one : signs) {
            for (String other : signs) {
                Due.is("one behind the other", fault("1" + one + "2" + other + "3"), -4);
                Due.is("with sums between", fault("1" + one + "2+2" + other + "3"), -6);
                Due.is("one behind the other in brackets", fault("(1" + one + "2" + other + "3)"), -5);
                Due.is("a bracket between: left", pace("(1" + one + "2)" + other + "3") >= 0, true);
                Due.is("a bracket between: right", pace("1" + one + "(2" + other + "3)") >= 0, true);
            }
        }
        Due.is("(1<2)<3", pace("(1<2)<3"), 1);
        Due.is("3>(2>1)", pace("3>(2>1)"), 1);
        Due.is("nothing ahead of it", fault("<1"), -1);
        Due.is("nothing behind it", fault("1<"), -3);
    }

    private static void sumsFromTheLeft() {
        Due.is("3-2-1", pace("3-2-1+1"), 1);
        Due.is("3-2+1", pace("3-2+1"), 2);
        Due.is("closer than <", pace("1+1<1+2"), 1);
        Due.is("closer than =", pace("2=3-1"), 1);
    }

    private static void productsFromTheLeft() {
        Due.is("8/4/2", pace("8/4/2"), 1);
        Due.is("8/4*2-2", pace("8/4*2-2"), 2);
        Due.is("3*3/2/2", pace("3*3/2/2"), 2);
        Due.is("closer than +", pace("0+1*2"), 2);
        Due.is("closer than -", pace("9-4*2"), 1);
        Due.is("closer than -, then /", pace("9-14/2"), 2);
    }

    private static void dividedByNothing() {
        Due.is("1/0", pace("1/0+1"), 1);
        Due.is("0/0", pace("0/0+2"), 2);
        Due.is("-1/0", pace("-1/0+1"), 1);
        Due.is("1/(1-1)", pace("1/(1-1)+3"), 3);
        Due.is("999/c", pace("999/c+1"), 1);
        Due.is("6/0*2", pace("6/0*2+1"), 1);
    }

    private static void cutToNothing() {
        Due.is("1/2", pace("1/2+1"), 1);
        Due.is("-1/2", pace("-1/2+1"), 1);
        Due.is("1/-2", pace("1/-2+1"), 1);
        Due.is("-7/2", pace("-7/2+5"), 2);
        Due.is("7/-2", pace("7/-2+5"), 2);
        Due.is("-7/-2", pace("-7/-2"), 3);
        Due.is("999/998", pace("999/998"), 1);
    }

    private static void anyManySigns() {
        for (int many = 0; many < 40; many++) {
            Due.is(many + " signs", pace("-".repeat(many) + "1"), many % 2 == 0 ? 1 : 0);
        }
        Due.is("2--1", pace("2--1"), 3);
        Due.is("2---1", pace("2---1"), 1);
        Due.is("-(1)", pace("-(1)+3"), 2);
        Due.is("-p", pace("-p+3"), 1);
        Due.is("closer than *", pace("-1*-2"), 2);
        Due.is("no + ahead of a thing", fault("+1"), -1);
        Due.is("no * ahead of a thing", fault("2**1"), -3);
        Due.is("a sign ahead of none", fault("2-"), -3);
    }

    private static void numbersOfOneToThreeDigits() {
        Due.is("1", pace("1"), 1);
        Due.is("02", pace("02"), 2);
        Due.is("003", pace("003"), 3);
        Due.is("999", pace("999-997"), 2);
        Due.is("000", pace("000"), 0);
        Due.is("a fourth digit", fault("1000"), -4);
        Due.is("a fourth digit, 0", fault("0001"), -4);
        Due.is("a fourth digit in the midst", fault("1+2345"), -6);
    }

    private static int faultOrPace(String rule) {
        BehindAnotherHearse x = Due.scene("......", "2", "", "0");
        int answer = Due.rule(x, rule);
        return answer == 0 ? x.hearse(0, 2) : answer;
    }

    private static void fourBracketsInOneAnother() {
        for (int many = 0; many <= 8; many++) {
            String rule = "(".repeat(many) + "2" + ")".repeat(many);
            Due.is(many + " in one another", faultOrPace(rule), many <= 4 ? 2 : -5);
        }
        Due.is("five, one behind another", faultOrPace("(0)+(0)+(0)+(0)+(2)"), 2);
        Due.is("four twice", faultOrPace("((((1))))+((((1))))"), 2);
        Due.is("four behind some that are closed", faultOrPace("(((1)+((1)+(2))))"), 3);
        Due.is("a fifth behind some that are closed", faultOrPace("((((1)+(1)+(1+(1)))))"), -15);
        Due.is("empty ones", faultOrPace("()"), -2);
        Due.is("not closed", faultOrPace("((((1)))"), -9);
        Due.is("closed too often", faultOrPace("((((1)))))"), -10);
    }

    private static void asInts() {
        // 999 times 999 times 999 is 997002999, its double still an int, its threefold below 0
        Due.is("twice", pace("999*999*999*2>0"), 1);
        Due.is("thrice comes round", pace("999*999*999*3<0"), 1);
        Due.is("thrice comes round: PACE", pace("999*999*999*3"), 0);
        Due.is("-thrice comes round", pace("-999*999*999*3"), 3);
        Due.is("sums come round", pace("999*999*999*2+999*999*999<0"), 1);
        // 256 times 256 times 256 times 128 is the least int, which is its own opposite
        Due.is("the least int", pace("256*256*256*128<0"), 1);
        Due.is("its opposite", pace("-(256*256*256*128)<0"), 1);
        Due.is("divided by -1", pace("256*256*256*128/-1<0"), 1);
        Due.is("one less", pace("256*256*256*128-1>0"), 1);
        Due.is("comparing is not taking away", pace("1>256*256*256*128"), 1);
    }

    private static void paceOfNoneToThree() {
        int[] want = {0, 0, 0, 0, 1, 2, 3, 3, 3};
        for (int v = -3; v <= 5; v++) {
            Due.is("PACE by " + v, pace("" + v), want[v + 3]);
        }
        Due.is("PACE by 999", pace("999"), 3);
        Due.is("PACE by -999", pace("-999"), 0);
    }

    private static void things() {
        // hearses on 0 and 28 of thirty, and close to each other
        BehindAnotherHearse x = Due.scene("c" + ".".repeat(27) + "c.", "0;28;5;6;8;9", "0a;0a;0a;0a;0a;0a;0a;0a", "");
        thing(x, "p", 0, 28, 5, 6, 8, 9);
        thing(x, "g", 4, 1, 0, 1, 0, 18);
        thing(x, "c", 1, 1, 0, 0, 0, 0);
        thing(x, "i", 0, 1, 2, 3, 4, 5);
        thing(x, "m", 0, 0, 0, 0, 0, 0);
        thing(x, "w", 0, 0, 0, 0, 0, 0);
        Due.weather(x, "9");
        thing(x, "w", 9, 9, 9, 9, 9, 9);
        Due.rule(x, "0");
        x.steps(1);
        thing(x, "m", 8, 0, 0, 0, 0, 0);
        BehindAnotherHearse z = Due.scene("..............................", "5;3;0;6;10;20", "", "");
        thing(z, "g", 0, 1, 2, 3, 9, 9);
        BehindAnotherHearse y = Due.scene("....", "0", "", "0");
        for (int step = 0; step <= 21; step++) {
            thing(y, "t", step % 10);
            Due.rule(y, "0");
            y.steps(1);
        }
        for (String other : new String[] {"a", "b", "d", "n", "P", "M", " ", "\u0000", "~", ",", ".", "\u00ff", "x"}) {
            Due.is("no thing: " + other, fault(other), -1);
            Due.is("no thing behind +: " + other, fault("1+" + other), -3);
        }
    }

    private static void thing(BehindAnotherHearse x, String letter, int... want) {
        for (int h = 0; h < want.length; h++) {
            Due.is("rule", Due.rule(x, letter + "=" + want[h]), 0);
            Due.is(letter + " of hearse " + h + " is " + want[h], x.hearse(h, 2), 1);
        }
    }

    // ---- a step

    private static void steps() {
        noPaceIsAWait();
        gateIsAlwaysFree();
        cornersOfOvertaking();
        mournersGoTwoCells();
        mournersChangeOver();
        mournersWithoutHearses();
        endedInTheStepOfArrival();
        waitsThatEndAtLast();
        theEnd();
    }

    private static void noPaceIsAWait() {
        BehindAnotherHearse x = Due.scene("......", "0;4", "", "0");
        x.steps(3);
        Due.row("PACE 0 WAITS", x, 6, 0);
        Due.is("on its CELL", x.hearse(0, 0) * 10 + x.hearse(1, 0), 4);
        x.steps(0);
        Due.row("no STEPS", x, 0, 0);
        BehindAnotherHearse y = Due.scene("......", "0;1;2", "", "(i=0)+(i=1)*0");
        y.steps(1);
        Due.row("no free CELL WAITS", y, 3, 0);
        BehindAnotherHearse z = Due.scene("......", "4", "", "3");
        z.steps(1);
        z.steps(1);
        Due.row("who has ARRIVED does not WAIT", z, 0, 0);
    }

    private static void gateIsAlwaysFree() {
        BehindAnotherHearse x = Due.scene("....", "0;1;2", "", "3");
        Due.is("all come to THE GATE in one STEP", x.steps(1), 3);
        Due.row("none WAITS", x, 0, 0);
        Due.is("the one ahead first", x.hearse(2, 1) * 100 + x.hearse(1, 1) * 10 + x.hearse(0, 1), 123);
        BehindAnotherHearse y = Due.scene("cccc", "0;1;2", "", "3");
        Due.is("on CORNERS, too, since none is passed", y.steps(1), 3);
        BehindAnotherHearse z = Due.scene("....", "2;1", "", "3*i");
        Due.is("past one that WAITS", z.steps(1), 1);
        Due.is("the first one", z.hearse(1, 1) * 10 + z.hearse(0, 1), 10);
        BehindAnotherHearse w = Due.scene("...c", "2;1", "", "3*i");
        Due.is("not past one, when THE GATE is a CORNER", w.steps(1), 0);
        Due.row("both WAIT", w, 2, 0);
        for (int pace = 1; pace <= 3; pace++) {
            BehindAnotherHearse v = Due.scene("....", "2", "", "" + pace);
            Due.is("CELLS end at THE GATE: " + pace, v.steps(1), 1);
        }
    }

    /** Hearse 0 on 2 of PACE 3, hearse 1 on 3 that WAITS; a CORNER on one CELL after another. */
    private static void cornersOfOvertaking() {
        int[] want = {5, 5, 2, 2, 2, 4, 5, 5};
        for (int corner = 0; corner < 8; corner++) {
            String avenue = ".".repeat(corner) + "c" + ".".repeat(9 - corner);
            BehindAnotherHearse x = Due.scene(avenue, "2;3", "", "3*(i=0)");
            x.steps(1);
            Due.is("a CORNER on " + corner, x.hearse(0, 0), want[corner]);
        }
        int[] past = {5, 5, 3, 3, 3, 3, 5, 5};
        for (int corner = 0; corner < 8; corner++) {
            String avenue = ".".repeat(corner) + "c" + ".".repeat(9 - corner);
            BehindAnotherHearse x = Due.scene(avenue, "2;4", "", "3*(i=0)");
            x.steps(1);
            Due.is("the other one on 4, a CORNER on " + corner, x.hearse(0, 0), past[corner]);
        }
        BehindAnotherHearse y = Due.scene("cccccccccc", "2;6", "", "3*(i=0)");
        y.steps(1);
        Due.is("CORNERS are nothing to one that passes none", y.hearse(0, 0), 5);
        y.steps(1);
        Due.is("but it WAITS behind one", y.hearse(0, 0), 5);
        Due.row("but it WAITS behind one", y, 2, 0);
        BehindAnotherHearse z = Due.scene("..........", "2;3;4", "", "3*(i=0)");
        z.steps(1);
        Due.is("past two", z.hearse(0, 0), 5);
        BehindAnotherHearse w = Due.scene("..........", "2;3;4;5", "", "3*(i=0)");
        w.steps(1);
        Due.is("none of the next three is free", w.hearse(0, 0), 2);
        BehindAnotherHearse v = Due.scene("..........", "2;5", "", "3*(i=0)");
        v.steps(1);
        Due.is("the farthest is not free", v.hearse(0, 0), 4);
    }

    private static void mournersGoTwoCells() {
        int[] want = {2, 3, 4, 5, 6, 6, 6, 6, 6, 7, 8};
        for (int cell = 0; cell <= 10; cell++) {
            BehindAnotherHearse x = Due.scene("............", "6", cell + "a", "0");
            x.steps(1);
            Due.is("2 CELLS, or till it is there, from " + cell, x.mourner(0, 0), want[cell]);
        }
        BehindAnotherHearse y = Due.scene("............", "0", "0a", "3");
        y.steps(1);
        Due.is("behind a faster one", y.hearse(0, 0) * 10 + y.mourner(0, 0), 32);
    }

    private static void mournersChangeOver() {
        // who FOLLOWS hearse 0 on 4, when hearse 1 on 8 is as near, a CELL nearer, a CELL farther
        int[] want = {0, 0, 1};
        int[] cells = {4, 4, 8};
        for (int k = 0; k < 3; k++) {
            BehindAnotherHearse x = Due.scene("............", "4;8", (5 + k) + "a", "0");
            x.turnsTo(0);
            x.steps(1);
            Due.is("on " + (5 + k), x.mourner(0, 2), want[k]);
            Due.row("on " + (5 + k), x, 2, want[k]);
            Due.is("towards the one that it FOLLOWS", x.mourner(0, 0), cells[k]);
            x.steps(1);
            Due.is("it is there", x.mourner(0, 0), cells[k]);
        }
        BehindAnotherHearse y = Due.scene("............", "4;8", "6a", "0");
        y.steps(1);
        Due.is("of equal ones the one that is ahead", y.mourner(0, 2), 1);
        BehindAnotherHearse z = Due.scene("............", "8;4", "6a", "0");
        z.steps(1);
        Due.is("whatever its number", z.mourner(0, 2), 0);
        BehindAnotherHearse w = Due.scene("............", "8;4;6", "6a", "0");
        w.steps(1);
        Due.is("one on its CELL is nearer than both", w.mourner(0, 2), 2);
    }

    private static void mournersWithoutHearses() {
        BehindAnotherHearse x = Due.scene("......", "4", "", "1");
        x.steps(1);
        Due.mourners(x, "0a;4a");
        x.steps(60);
        Due.row("none, if all have ARRIVED", x, 0, 0);
        Due.is("they stay", x.mourner(0, 0) * 10 + x.mourner(1, 0), 4);
        Due.is("they FOLLOW none", x.mourner(0, 2) + x.mourner(1, 2), -2);
        Due.is("they have not ENDED", x.count(5), 0);
    }

    private static void endedInTheStepOfArrival() {
        BehindAnotherHearse x = Due.scene("......", "3", "3a;0a", "1");
        x.steps(1);
        Due.is("not yet", x.count(5), 0);
        x.steps(1);
        Due.is("in the STEP of its arrival, however far", x.count(5), 2);
        Due.is("it goes no more", x.mourner(0, 0) * 10 + x.mourner(1, 0), 42);
        BehindAnotherHearse y = Due.scene("......", "4;0", "4a", "i=0");
        y.steps(1);
        Due.is("it FOLLOWED none when that ARRIVED: the nearest one on THE AVENUE", y.mourner(0, 2), 1);
        Due.is("it has not ENDED", y.mourner(0, 3), -1);
    }

    /** However long all stand still, what THE RULE says of a later STEP counts up to THE END. */
    private static void waitsThatEndAtLast() {
        Object[][] rules = {{"t=9", "0", 30}, {"t=8", "0", 29}, {"3*(t=0)*(w=9)", "0000009", 21}, {"w=9", "09", 6}, {"w=9", "009", 9},
            {"w=9", "0009", 12}, {"w=9", "00000000009", 33}, {"(t=0)*(w=9)", "0000009", 161}, {"(t=9)*(w=9)", "0000000000000000009", -2},
            {"(t=9)*(w=9)", "009", 90}, {"3*(t=9)*(w=9)", "0000000000000000009", 190}};
        for (Object[] one : rules) {
            int steps = (Integer) one[2];
            BehindAnotherHearse x = Due.scene("....", "0", "0a", (String) one[0]);
            Due.weather(x, (String) one[1]);
            Due.is(one[0] + " by " + one[1] + ": arrives", x.arrives(0), steps);
            Due.is(one[0] + " by " + one[1] + ": right", x.right(), steps > 0 ? 1 : 0);
            Due.is(one[0] + " by " + one[1] + ": ends", x.ends(0), steps > 0 ? 0 : -2);
            Due.rule(x, "0");
            Due.is(one[0] + " by " + one[1] + ": law", Due.law(x, (String) one[0]), steps > 0 ? 1 : 0);
        }
    }

    /** A hearse that comes to THE GATE in the last of 200 STEPS, or in the one behind it. */
    private static BehindAnotherHearse late(boolean isTooLate) {
        BehindAnotherHearse x = Due.scene(isTooLate ? "............" : "...........", "0", "0a", "w");
        Due.weather(x, RARE);
        x.steps(isTooLate ? 19 : 0);
        return x;
    }

    private static void theEnd() {
        for (int k = 0; k < 2; k++) {
            boolean in = k == 0;
            String name = in ? "behind 200 STEPS: " : "behind 201 STEPS: ";
            Due.is(name + "arrives", late(!in).arrives(0), in ? 200 : -2);
            Due.is(name + "ends", late(!in).ends(0), in ? 0 : -2);
            Due.is(name + "right", late(!in).right(), in ? 1 : 0);
            Due.is(name + "order", late(!in).order(), in ? 1 : 0);
            Due.is(name + "stands", late(!in).stands(0), in ? 0 : -2);
            Due.is(name + "mends", late(!in).mends(1), in ? 0 : -2);
            BehindAnotherHearse x = late(!in);
            x.crowd();
            Due.row(name + "crowd", x, in ? 1 : 0, in ? 1 : 0);
            x.heard(1, 1);
            Due.is(name + "heard 1", x.fits(), in ? 1 : 0);
            x.forget();
            x.heard(2, 1);
            Due.is(name + "heard 2", x.fits(), in ? 1 : 0);
            Due.is(name + "law", Due.law(x, "0"), in ? -1 : 0);
            BehindAnotherHearse y = late(!in);
            Due.hearses(y, "1");
            Due.rule(y, "w*(i=0)");
            Due.is(name + "misleads", y.misleads(), in ? 1 : 0);
            Due.row(name + "misleads", y, in ? 1 : 0, 0);
        }
    }
}
