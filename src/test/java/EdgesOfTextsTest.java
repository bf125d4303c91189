/** Boundary cases of the promises whose calls read THE TEXT (2 to 8, 16, 38): a method for each sentence. */
public final class EdgesOfTextsTest {
    private static final int LEAST = -2147483648;
    private static final int MOST = 2147483647;

    public static void main(String[] args) {
        signsOfTheHighestByteFirst();
        noMoreThanEightySigns();
        firstSignsAlone();
        avenueFaults();
        avenueIsAnew();
        hearsesFaults();
        hearsesOfSeventeenSigns();
        mournersFaults();
        mournersOfThirtyNineSigns();
        nothingOfItComes();
        anEmptyTextIsNothing();
        weatherFaults();
        ruleFaults();
        hourSigns();
        hourFaults();
        hourOfSixtySigns();
        hourTillOneIsRefused();
        hourIsUndoneAsOne();
        lawFaults();
        lawIsAnother();
        everyCallEmptiesTheText();
        Due.end();
    }

    // ---- promises 2 and 3

    private static void signsOfTheHighestByteFirst() {
        BehindAnotherHearse x = new BehindAnotherHearse();
        Due.is("sign", x.sign('1' << 24 | '2' << 16 | '3' << 8 | '4'), 4);
        Due.is("weather 1234", x.weather(), 4);
        int[] want = {1, 2, 3, 4, 1};
        for (int digit : want) {
            Due.is("the highest byte first", x.count(8), digit);
            x.steps(1);
        }
        int[] values = {0, -1, LEAST, MOST};
        for (int v : values) {
            Due.is("any v: " + v, x.sign(v), 4);
            Due.is("its first sign can't stand", x.weather(), -1);
        }
        x.sign('1' << 24 | '2' << 16 | '3' << 8 | 0xFF);
        Due.is("the lowest byte is the last", x.weather(), -4);
    }

    private static void noMoreThanEightySigns() {
        for (int have = 70; have <= 80; have++) {
            BehindAnotherHearse x = new BehindAnotherHearse();
            Due.text(x, "c".repeat(have));
            Due.is("signs", x.count(12), have);
            int want = have + 4 > 80 ? -1 : have + 4;
            Due.is("four more than " + have, x.sign(0x63636363), want);
            Due.is("signs", x.count(12), want < 0 ? have : want);
            Due.is("they are as they were", x.end(30) ? x.avenue() : 0, 30);
        }
    }

    private static void firstSignsAlone() {
        BehindAnotherHearse x = new BehindAnotherHearse();
        Due.is("0 of none", x.end(0), true);
        Due.is("1 of none", x.end(1), false);
        Due.text(x, "..c.c");
        for (int n : new int[] {-1, LEAST, 6, 80, 81, MOST}) {
            Due.is("end(" + n + ") of 5", x.end(n), false);
            Due.is("five as ahead", x.count(12), 5);
        }
        Due.is("all five", x.end(5), true);
        Due.is("five", x.count(12), 5);
        Due.is("the first four", x.end(4), true);
        Due.is("not five any more", x.end(5), false);
        Due.is("they are the first", x.avenue() * 10 + x.count(7), 41);
        Due.text(x, "..c.c");
        Due.is("none of them", x.end(0), true);
        Due.is("none", x.count(12), 0);
    }

    // ---- promise 4

    private static void avenueFaults() {
        BehindAnotherHearse x = new BehindAnotherHearse();
        for (int signs = 0; signs < 4; signs++) {
            Due.is("fewer than 4: " + signs, Due.avenue(x, "c".repeat(signs)), -1 - signs);
        }
        for (int p = 0; p < 40; p++) {
            String text = ".".repeat(p) + "x" + ".".repeat(39 - p);
            Due.is("a fault at " + p, Due.avenue(x, text), p < 30 ? -1 - p : -31);
        }
        for (int sign = 0; sign < 256; sign++) {
            int want = sign == '.' || sign == 'c' ? 4 : -3;
            Due.is("sign " + sign, Due.avenue(new BehindAnotherHearse(), "c." + (char) sign + "."), want);
        }
        Due.is("a fault ahead of too early an end", Due.avenue(x, ".x"), -2);
        Due.is("eighty", Due.avenue(x, ".".repeat(80)), -31);
        Due.is("the four CELLS of at first", x.count(0), 4);
    }

    private static void avenueIsAnew() {
        BehindAnotherHearse x = Due.scene("..c...", "4;1", "4a;0b", "1");
        x.steps(1);
        x.keep(0);
        x.keep(1);
        x.keep(2);
        Due.is("a refused one", Due.avenue(x, "..."), -4);
        int[] as = {6, 2, 2, 1, 1, 0, 0, 1, 0, 0, 1};
        for (int what = 0; what < as.length; what++) {
            Due.is("a refused one leaves count(" + what + ")", x.count(what), as[what]);
        }
        Due.is("a refused one leaves what is kept", x.again(0), true);
        x.steps(1);
        Due.is("the same again", Due.avenue(x, "..c..."), 6);
        int[] want = {6, 0, 0, 0, 0, 0, 0, 1, 0, 0, 0};
        for (int what = 0; what < want.length; what++) {
            Due.is("anew: count(" + what + ")", x.count(what), want[what]);
        }
        Due.is("nothing can be undone", x.undo(), -1);
        for (int i = 0; i < 3; i++) {
            Due.is("nothing is kept", x.again(i), false);
        }
        Due.none("no HEARSES", () -> x.hearse(0, 0));
        Due.none("no MOURNERS", () -> x.mourner(0, 0));
        Due.is("the CELLS are free", Due.hearses(x, "4;1;2"), 3);
        Due.is("none has ARRIVED", x.hearse(0, 1) + x.count(4), 0);
        x.steps(9);
        Due.is("the first one to ARRIVE is 1 again", x.hearse(0, 1), 1);
        Due.avenue(x, "c...");
        Due.is("CORNERS of another one", x.count(7), 1);
        Due.avenue(x, "....");
        Due.is("no CORNERS any more", x.count(7), 0);
        Due.hearses(x, "1");
        Due.mourners(x, "1a;0a");
        x.steps(9);
        Due.is("two have ENDED", x.count(5) * 100 + x.count(6) * 10 + x.count(4), 221);
        Due.avenue(x, "......");
        Due.is("none has ENDED any more", x.count(5) * 100 + x.count(6) * 10 + x.count(4), 0);
        Due.hearses(x, "4");
        Due.mourners(x, "2a");
        Due.is("nobody at first", x.mourner(0, 2) + x.mourner(0, 3), -2);
        Due.is("the sum of those that are there", x.sheet(2, 8, 1, 0), 1);
        Due.is("right", x.right(), 0);
        Due.is("strangers", x.strangers(), -2);
    }

    // ---- promises 5 and 6

    /** Of thirteen CELLS, THE GATE on 12, a hearse on 5. */
    private static void hearsesFaults() {
        Object[][] faults = {{"x", 0}, {";", 0}, {"-1", 0}, {" 1", 0}, {"1x", 1}, {"1 ", 1}, {"1;", 2}, {"1;x", 2}, {"1;;2", 2},
            {";1", 0}, {"11x", 2}, {"111", 2}, {"011", 2}, {"11;", 3}, {"12", 1}, {"13", 1}, {"99", 1}, {"1;12", 3},
            {"1;13", 3}, {"5", 0}, {"05", 1}, {"1;5", 2}, {"1;05", 3}, {"1;1", 2}, {"1;01", 3}, {"01;1", 3}, {"11;11", 4},
            {"12x", 1}, {"121", 1}, {"5x", 0}, {"5;", 0}, {"12;", 1}, {"1;2;3;4;6;7", 10}, {"1;2;3;4;6;x", 10},
            {"1;2;3;4;6;", 10}, {"1;2;3;4;6x", 9}, {"01;02;03;04;06;7", 15}, {"1a", 1}, {"1,2", 1}, {"1;2;3;4;12;7", 9}};
        for (Object[] one : faults) {
            BehindAnotherHearse x = Due.scene(".............", "5", "", "");
            Due.is("hearses " + one[0], Due.hearses(x, (String) one[0]), -1 - (Integer) one[1]);
            Due.is("nothing of it came", x.count(1), 1);
        }
        for (int sign = 0; sign < 256; sign++) {
            BehindAnotherHearse x = Due.scene("............", "", "", "");
            boolean isDigit = sign >= '0' && sign <= '9';
            Due.is("hearses: first sign " + sign, Due.hearses(x, "" + (char) sign), isDigit ? 1 : -1);
            BehindAnotherHearse y = Due.scene("............", "", "", "");
            int want = sign == '0' ? 1 : sign == ';' ? -3 : -2;
            Due.is("hearses: sign " + sign + " behind a digit", Due.hearses(y, "1" + (char) sign), want);
        }
    }

    private static void hearsesOfSeventeenSigns() {
        String full = "10;11;12;13;14;15";
        String avenue = ".".repeat(30);
        Object[][] texts = {{full, 6}, {full + ";", -18}, {full + ";16", -18}, {full + "x", -18}, {full + "0", -18},
            {full + " ".repeat(63), -18}, {"10;11;12;13;14;14;", -17}, {"10;11;12;13;14;29;", -17}, {"10;11;12;13;14;1x;", -17},
            {"10;11;12;13;14x15;", -15}, {"1;11;12;13;14;15;2", -18}, {"1;2;12;13;14;15;2", -17}, {"1;11;12;13;14;15;x", -18}};
        for (Object[] one : texts) {
            BehindAnotherHearse x = Due.scene(avenue, "", "", "");
            Due.is("hearses " + one[0], Due.hearses(x, (String) one[0]), (Integer) one[1]);
            Due.is("how many came", x.count(1), Math.max(0, (Integer) one[1]));
        }
    }

    /** Of thirteen CELLS, THE GATE on 12, hearses on 5 and 6. */
    private static void mournersFaults() {
        Object[][] faults = {{"x", 0}, {";", 0}, {"a", 0}, {" 1a", 0}, {"1", 1}, {"1x", 1}, {"1;", 1}, {"11", 2}, {"11;", 2},
            {"111a", 2}, {"011a", 2}, {"1c", 1}, {"1f", 1}, {"1g", 1}, {"1A", 1}, {"11c", 2}, {"12a", 1}, {"13a", 1}, {"99a", 1},
            {"12", 1}, {"12c", 1}, {"1a;", 3}, {"1ax", 2}, {"1a1", 2}, {"1aa", 2}, {"1a;;", 3}, {"1a;x", 3}, {"1a;2", 4},
            {"1a;2c", 4}, {"1a;12b", 4}, {"1b;12", 4}, {"1a;2b;", 6}, {"1a,2b", 2}};
        for (Object[] one : faults) {
            BehindAnotherHearse x = Due.scene(".............", "5;6", "5a", "");
            Due.is("mourners " + one[0], Due.mourners(x, (String) one[0]), -1 - (Integer) one[1]);
            Due.is("nothing of it came", x.count(2), 1);
        }
        for (int sign = 0; sign < 256; sign++) {
            BehindAnotherHearse x = Due.scene("............", "5;6", "", "");
            Due.is("mourners: letter " + sign, Due.mourners(x, "1" + (char) sign),
                sign == 'a' || sign == 'b' ? 1 : sign == '0' ? -3 : -2);
        }
    }

    /** Eight LINES have 31 signs at most, so a ninth one is faulted ahead of the fortieth sign. */
    private static void mournersOfThirtyNineSigns() {
        String eight = "10a;11b;10a;11b;10a;11b;10a;11b";
        Object[][] texts = {{eight, 8}, {eight + ";", -33}, {eight + "x", -32}, {eight + ";10a;11b", -33}, {eight + ";x", -33},
            {eight + ";10a;11b;10a", -33}, {eight + "x".repeat(49), -32}, {eight + ";" + "1a;".repeat(16), -33}};
        for (Object[] one : texts) {
            BehindAnotherHearse x = Due.scene("...............", "5;6", "", "");
            Due.is("mourners " + one[0], Due.mourners(x, (String) one[0]), (Integer) one[1]);
            Due.is("how many came", x.count(2), Math.max(0, (Integer) one[1]));
        }
    }

    private static void nothingOfItComes() {
        BehindAnotherHearse x = Due.scene("............", "5;6", "5a;6b", "1");
        x.steps(1);
        x.keep(0);
        Due.is("the third LINE can't", Due.hearses(x, "1;2;11"), -6);
        Due.is("nor the first two", x.count(1), 2);
        Due.is("CELL 1 is free", Due.hearses(Due.scene("....", "", "", ""), "1;3") + Due.hearses(x, "1;1"), -6);
        Due.is("the third LINE of MOURNERS can't", Due.mourners(x, "1a;2b;3c"), -8);
        Due.is("nor the first two", x.count(2), 2);
        Due.is("what can be undone stays", x.count(10), 1);
        Due.is("what is kept stays", x.again(0), true);
        Due.is("they come behind those that are there", Due.hearses(x, "1;2") + Due.mourners(x, "1c;2d"), 4);
        Due.is("by their numbers", x.hearse(2, 0) * 10 + x.hearse(3, 0), 12);
        Due.is("by their numbers", x.mourner(2, 1) * 10 + x.mourner(3, 1), 23);
    }

    private static void anEmptyTextIsNothing() {
        BehindAnotherHearse x = Due.scene("............", "5;6", "5a;6b", "1");
        x.steps(1);
        x.keep(0);
        x.line();
        Due.is("no HEARSES", Due.hearses(x, ""), 0);
        Due.is("no MOURNERS", Due.mourners(x, ""), 0);
        Due.is("as many as ahead", x.count(1) * 10 + x.count(2), 22);
        Due.is("what can be undone stays", x.count(10), 1);
        Due.is("what is kept stays", x.again(0), true);
        Due.is("an empty hour", Due.hour(x, ""), 0);
        Due.row("an empty hour: none refused, STEP", x, 0, 1);
        Due.is("an empty hour can't be undone", x.count(10), 0);
        Due.rule(x, "3");
        Due.is("no RULE", Due.rule(x, ""), 0);
        Due.is("1+(g>2)", x.hearse(0, 2) * 10 + x.hearse(1, 2), 12);
        Due.is("weather needs a sign", Due.weather(x, ""), -1);
        Due.is("an avenue needs four", Due.avenue(x, ""), -1);
    }

    // ---- promises 7 and 8

    private static void weatherFaults() {
        BehindAnotherHearse x = new BehindAnotherHearse();
        Due.weather(x, "4");
        for (int p = 0; p < 25; p++) {
            String text = "7".repeat(p) + "x" + "7".repeat(24 - p);
            Due.is("a fault at " + p, Due.weather(x, text), p < 20 ? -1 - p : -21);
            Due.is("nothing changes", x.count(8), 4);
        }
        Due.is("its end for none", Due.weather(x, ""), -1);
        Due.is("a twenty-first sign", Due.weather(x, "1".repeat(20) + "x"), -21);
        Due.is("one sign", Due.weather(x, "9"), 1);
        Due.is("twenty signs", Due.weather(x, "98765432109876543210"), 20);
        x.steps(19);
        Due.is("the twentieth one", x.count(8), 0);
        x.steps(1);
        Due.is("the first one again", x.count(8), 9);
    }

    private static final Object[][] RULE_FAULTS = {{"z", 0}, {"p+", 2}, {"p+z", 2}, {"-", 1}, {"--", 2}, {"(", 1}, {"(1", 2},
        {"((1)", 4}, {")", 0}, {"()", 1}, {"1)", 1}, {"(1))", 3}, {"1(", 1}, {"(1)2", 3}, {"(1)p", 3}, {"pg", 1}, {"p1", 1},
        {"1p", 1}, {"1234", 3}, {"+1", 0}, {"*1", 0}, {"/1", 0}, {"<1", 0}, {">1", 0}, {"=1", 0}, {"1++1", 2}, {"1+*1", 2},
        {"1*/1", 2}, {"1<", 2}, {"1<=2", 2}, {"1==2", 2}, {"1<2<3", 3}, {"1>2=3", 3}, {"1=2>3", 3}, {"(1=2>3)", 4},
        {"1<(2<3<4)", 6}, {"1<2+(3<4)<5", 9}, {"(((((1", 4}, {"-((((-(1", 6}, {"1 ", 1}, {" 1", 0}, {"1+ 1", 2}, {"1.", 1},
        {"1\u0000", 1}, {"\u00ff", 0}, {"P", 0}, {"1-", 2}, {"1--", 3}, {"1+-", 3}, {"(-", 2}, {"(1+", 3}, {"(1<2", 4}, {"1%2", 1}};

    private static void ruleFaults() {
        for (Object[] one : RULE_FAULTS) {
            BehindAnotherHearse x = Due.scene("......", "0", "", "3");
            Due.is("rule " + one[0], Due.rule(x, (String) one[0]), -1 - (Integer) one[1]);
            Due.is("THE RULE is as ahead", x.hearse(0, 2), 3);
            Due.is("a RULE that can stand, then", Due.rule(x, "2"), 0);
            Due.is("PACE by it", x.hearse(0, 2), 2);
        }
        // thirty-eight signs that can go on, and what comes behind them
        String most = "1+".repeat(19);
        Object[][] longOnes = {{most, 38}, {most + "1", -1}, {most + "11", -1}, {most + "111", 40}, {most + "11x", 40},
            {most + "11+", 40}, {most + "1+", 40}, {most + "1+1", 40}, {most + "1+x", 40}, {most + "--", 40}, {most + "--1", 40},
            {most + "(1", 40}, {most + "(1)", 40}, {most + "((", 40}, {most + "((1))", 40}, {most + "x", 38}, {most + "1x", 39},
            {most + "1xx", 39}, {most + "1)1", 39}, {most + "1<", 40}, {most + "1<1", 40}, {most + "<", 38}, {most + "(<", 39},
            {"-".repeat(39) + "1", -1}, {"-".repeat(40), 40}, {"-".repeat(40) + "1", 40}, {"-".repeat(80), 40},
            {"((((" + "1+".repeat(16) + "1)))", 40}, {"((((" + "1+".repeat(16) + "1))))", 40},
            {"(((" + "1+".repeat(16) + "11)))", -1}, {"(((" + "1+".repeat(16) + "11)))x", 40},
            {"((((" + "1+".repeat(15) + "11))))", -1}, {"((((" + "1+".repeat(15) + "11)))))", 40},
            {"1+".repeat(18) + "123" + "4", 39}, {"1+".repeat(18) + "1+1<1" + "<", 40}, {"1+".repeat(18) + "1<1<", 39}};
        for (Object[] one : longOnes) {
            BehindAnotherHearse x = Due.scene("......", "0", "", "2");
            Due.is("rule " + one[0], Due.rule(x, (String) one[0]), (Integer) one[1] < 0 ? 0 : -1 - (Integer) one[1]);
        }
    }

    // ---- promise 16

    private static BehindAnotherHearse six() {
        return Due.scene("..............................", "0;1;2;3;4;5", "9a;9b;9c;9d;9e;9f;9a;9b", "0");
    }

    private static void hourSigns() {
        for (int sign = 0; sign < 256; sign++) {
            String c = "" + (char) sign;
            boolean isAct = "ntpbx".indexOf(c) >= 0;
            boolean isDigit = "0123456789".contains(c);
            Due.is("an act of sign " + sign, Due.hour(six(), c), isAct ? -2 : -1);
            Due.is("n" + sign, Due.hour(six(), "n" + c), isDigit ? 1 : -2);
            Due.is("t" + sign, Due.hour(six(), "t" + c), isDigit ? (sign < '8' ? 1 : 0) : -2);
            Due.is("p" + sign, Due.hour(six(), "p" + c + "1"), isDigit ? (sign < '8' ? 1 : 0) : -2);
            Due.is("p0" + sign, Due.hour(six(), "p0" + c), isDigit && sign > '0' ? 1 : -3);
            Due.is("b" + sign, Due.hour(six(), "b" + c + "1"), isDigit ? (sign < '8' ? 1 : 0) : -2);
            Due.is("b0" + sign, Due.hour(six(), "b0" + c), isDigit && sign > '0' ? 1 : -3);
            Due.is("x" + sign, Due.hour(six(), "x" + c + "0"), isDigit ? (sign < '6' && sign > '0' ? 1 : 0) : -2);
            Due.is("x0" + sign, Due.hour(six(), "x0" + c), isDigit ? (sign < '6' && sign > '0' ? 1 : 0) : -3);
        }
        BehindAnotherHearse x = six();
        Due.is("ahead by 9, back by 9", Due.hour(x, "p09b19"), 2);
        Due.is("their CELLS", x.mourner(0, 0) * 100 + x.mourner(1, 0), 1800);
        Due.is("nine STEPS and none", Due.hour(x, "n9n0"), 2);
        Due.row("nine STEPS and none", x, 0, 9);
    }

    private static void hourFaults() {
        Object[][] faults = {{"y", 0}, {"N1", 0}, {"1", 0}, {" n1", 0}, {"n", 1}, {"nx", 1}, {"n1n", 3}, {"n1y", 2}, {"n11", 2},
            {"t", 1}, {"tx", 1}, {"t11", 2}, {"p", 1}, {"p1", 2}, {"px", 1}, {"p1x", 2}, {"p10", 2}, {"p111", 3}, {"b", 1},
            {"b1", 2}, {"bx", 1}, {"b10", 2}, {"b1-", 2}, {"x", 1}, {"x1", 2}, {"xa", 1}, {"x1a", 2}, {"x121", 3}, {"n1;n1", 2},
            {"n1t1p11b11x0", 12}, {"n1t1p11b11x01y", 13}};
        for (Object[] one : faults) {
            BehindAnotherHearse x = six();
            x.line();
            Due.is("hour " + one[0], Due.hour(x, (String) one[0]), -1 - (Integer) one[1]);
            Due.is("nothing is done then", x.count(3) + x.count(10), 0);
            Due.is("nobody is pushed", x.mourner(1, 0), 9);
            Due.row("the ROW stays", x, 5, 4, 3, 2, 1, 0);
        }
    }

    private static void hourOfSixtySigns() {
        String fifty = "n0".repeat(25);
        Object[][] texts = {{fifty + "n0n0n0n0n1", 30}, {fifty + "n0n0n0n0n1n1", -61}, {fifty + "n0n0n0n0n1y", -61},
            {fifty + "n0n0n0n0n1n", -61}, {fifty + "x01x01x01n", -61}, {fifty + "x01x01x01n1", -61},
            {fifty + "x01x01x01y", -60}, {fifty + "x01x01x01y1", -60}, {fifty + "x01x01n0x0", -61}, {fifty + "x01x01n0x01", -61},
            {fifty + "x01x01n0x0y", -61}, {fifty + "x01x01n0xy0", -60}, {fifty + "x01x01n0p0", -61},
            {fifty + "x01x01n0p00", -61}, {fifty + "x01x01n0p01", -61}, {fifty + "x01x01x01", 28}, {fifty + "x01x01x01n0", -61},
            {"x01".repeat(20), 20}, {"x01".repeat(21), -61}, {"p01b01".repeat(10), 20}, {"p01b01".repeat(13), -61},
            {"n0".repeat(40), -61}, {"x01".repeat(19) + "p0", -60}, {"x01".repeat(19) + "p00", -60}, {"x01".repeat(19) + "p00n1", -60}};
        for (Object[] one : texts) {
            BehindAnotherHearse x = six();
            Due.is("hour " + one[0], Due.hour(x, (String) one[0]), (Integer) one[1]);
            Due.is("as one, or nothing", x.count(10), (Integer) one[1] > 0 ? 1 : 0);
        }
    }

    private static void hourTillOneIsRefused() {
        // refused by NONE: t8, p81, b81, x00, x06, x60; by -2, -3 below; -4 is no refusal
        for (String refused : new String[] {"t8", "t9", "p81", "b91", "x00", "x06", "x60", "x99"}) {
            BehindAnotherHearse x = six();
            Due.is("n1 and " + refused, Due.hour(x, "n1" + refused + "n5"), 1);
            Due.row("n1 and " + refused, x, 1, 1);
            Due.is("undone", x.undo(), 0);
            Due.is("STEP", x.count(3), 0);
            Due.is(refused + " alone", Due.hour(x, refused + "n5"), 0);
            Due.row(refused + " alone", x, 1, 0);
            Due.is(refused + " alone can't be undone", x.undo(), -1);
        }
        BehindAnotherHearse y = six();
        Due.is("-4 is no refusal", Due.hour(y, "t0t1n1"), 3);
        Due.row("-4 is no refusal", y, 0, 1);
        Due.is("-3: it FOLLOWS it", Due.hour(y, "t0t0n1"), 1);
        Due.row("-3: it FOLLOWS it", y, 1, 1);
        // -3 of an OWN that has ARRIVED, -2 of a hearse that has
        for (String refused : new String[] {"t0", "t1", "x01", "x10"}) {
            BehindAnotherHearse z = Due.scene(".........", "7;0", "7a;0a", "i=0");
            Due.is("n2 and " + refused, Due.hour(z, "n2" + refused + "n1"), 1);
            Due.row("n2 and " + refused, z, 1, 2);
        }
        for (String refused : new String[] {"t0", "p01", "b01"}) {
            BehindAnotherHearse w = Due.scene("......", "3", "3a", "1");
            Due.is("it has ENDED: " + refused, Due.hour(w, "n2" + refused + "n1"), 1);
            Due.row("it has ENDED: " + refused, w, 1, 2);
        }
    }

    private static void hourIsUndoneAsOne() {
        BehindAnotherHearse x = six();
        Due.is("five acts", Due.hour(x, "n3t0p15b23x05"), 5);
        Due.is("as one", x.count(10), 1);
        Due.is("undone", x.undo(), 0);
        Due.is("all as ahead", x.count(3) + x.hearse(0, 0) * 10 + x.mourner(0, 2) + x.mourner(1, 0) + x.mourner(2, 0), -1 + 18);
        Due.is("one act that changes nothing", Due.hour(x, "n0"), 1);
        Due.is("it can be undone", x.undo(), 0);
        for (int k = 0; k < 20; k++) {
            Due.hour(x, "n1n1");
        }
        Due.is("of 15 that are kept", x.count(10), 15);
        for (int k = 14; k >= 0; k--) {
            Due.is("undone", x.undo(), k);
        }
        Due.is("the first five are not undone", x.count(3), 10);
    }

    // ---- promise 38

    private static void lawFaults() {
        for (Object[] one : RULE_FAULTS) {
            BehindAnotherHearse x = Due.scene("......", "0", "0a", "3");
            x.line();
            Due.is("law " + one[0], Due.law(x, (String) one[0]), -10000 - (Integer) one[1]);
            Due.is("THE RULE is as ahead", x.hearse(0, 2), 3);
            Due.row("the ROW stays", x, 0);
            Due.is("a law that can stand, then", Due.law(x, "2-2"), -1);
            Due.row("a law that can stand, then", x, 0, 1);
        }
        BehindAnotherHearse y = Due.scene("......", "0", "0a", "3");
        Due.is("forty signs", Due.law(y, "-".repeat(39) + "1"), -1);
        Due.is("more than forty", Due.law(y, "-".repeat(40) + "1"), -10040);
        Due.is("too early an end at forty", Due.law(y, "-".repeat(40)), -10040);
    }

    private static void lawIsAnother() {
        BehindAnotherHearse x = Due.scene("........", "0", "0a;1a;2a;3a;4a;5a;6a;0a", "0");
        Due.is("all eight by it", Due.law(x, "1"), 8);
        Due.row("all eight by it", x, 8, 0);
        Due.is("none: 1+(g>2)", Due.law(x, ""), 8);
        Due.is("THE RULE stays", x.hearse(0, 2), 0);
        Due.rule(x, "1");
        Due.is("none of eight by it", Due.law(x, "0"), -8);
        Due.row("none of eight by it", x, 0, 8);
        Due.is("the same", Due.law(x, "1"), 0);
        Due.row("the same", x, 8, 8);
        Due.is("THE RULE stays", x.hearse(0, 2), 1);
        x.steps(60);
        Due.is("who has ENDED stays so", Due.law(x, "0"), 0);
        Due.row("who has ENDED stays so", x, 8, 8);
        BehindAnotherHearse y = new BehindAnotherHearse();
        Due.is("nobody there", Due.law(y, ""), 0);
        Due.row("nobody there", y, 0, 0);
    }

    private interface Reader {
        int read(BehindAnotherHearse x);
    }

    private static void everyCallEmptiesTheText() {
        Reader[] readers = {BehindAnotherHearse::avenue, BehindAnotherHearse::hearses, BehindAnotherHearse::mourners,
            BehindAnotherHearse::weather, BehindAnotherHearse::rule, BehindAnotherHearse::hour, BehindAnotherHearse::law};
        String[] texts = {"", "....", "1", "1a", "n1", "~", "~".repeat(80), "1".repeat(80)};
        for (int r = 0; r < readers.length; r++) {
            for (String text : texts) {
                BehindAnotherHearse x = Due.scene("....", "0", "", "");
                Due.text(x, text);
                readers[r].read(x);
                Due.is("reader " + r + " empties " + text, x.count(12), 0);
                Due.is("there is room again", x.sign(0), 4);
            }
        }
    }
}
