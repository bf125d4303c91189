/** Promises 1 to 11: a new object, and what is told by texts. */
public final class TextsTest {
    public static void main(String[] args) {
        newObject();
        signs();
        avenues();
        hearses();
        mourners();
        weather();
        rules();
        hearseAndMourner();
        sheets();
        Due.end();
    }

    private static void newObject() {
        BehindAnotherHearse x = new BehindAnotherHearse();
        int[] want = {4, 0, 0, 0, 0, 0, 0, 0, 0, 0, 0, 0, 0};
        for (int what = 0; what < want.length; what++) {
            Due.is("new: count(" + what + ")", x.count(what), want[what]);
        }
        Due.is("new: count(-1)", x.count(-1), -100);
        Due.is("new: count(13)", x.count(13), -100);
        Due.none("new: row(0)", () -> x.row(0));
        Due.is("NONE", BehindAnotherHearse.NONE, -1);
    }

    private static void signs() {
        BehindAnotherHearse x = new BehindAnotherHearse();
        for (int n = 4; n <= 80; n += 4) {
            Due.is("sign", x.sign(0x2E2E2E2E), n);
        }
        Due.is("sign beyond 80", x.sign(0x2E2E2E2E), -1);
        Due.is("a refused sign keeps THE TEXT", x.count(12), 80);
        Due.is("end(81)", x.end(81), false);
        Due.is("end(-1)", x.end(-1), false);
        Due.is("end(77)", x.end(77), true);
        Due.is("sign to 81", x.sign(0), -1);
        Due.is("end(76)", x.end(76), true);
        Due.is("end(77) again", x.end(77), false);
        Due.is("sign to 80", x.sign(0), 80);
        Due.is("end(4)", x.end(4), true);
        Due.is("the first four alone", x.avenue(), 4);
        Due.is("a call that reads THE TEXT empties it", x.count(12), 0);
        x.sign(0x2E632E63);
        x.avenue();
        Due.is("the highest byte is first", x.count(7), 2);
        x.sign(0x80FF6363);
        Due.is("bytes have no sign", x.avenue(), -1);
    }

    private static void avenues() {
        BehindAnotherHearse x = Due.scene("..c...", "0;2", "1a;2b", "");
        x.steps(1);
        x.keep(0);
        Due.weather(x, "123");
        x.heard(3, 0);
        Due.is("a fault", Due.avenue(x, "....x."), -5);
        Due.is("a fault ahead of the end", Due.avenue(x, "x"), -1);
        Due.is("none", Due.avenue(x, ""), -1);
        Due.is("three", Due.avenue(x, "..c"), -4);
        Due.is("31", Due.avenue(x, ".".repeat(31)), -31);
        Due.is("a fault beyond 31", Due.avenue(x, ".".repeat(31) + "x"), -31);
        Due.is("a fault ahead of 31", Due.avenue(x, ".".repeat(29) + "x."), -30);
        Due.is("a capital", Due.avenue(x, "...C"), -4);
        Due.is("nothing has changed", x.count(0) * 100 + x.count(1) * 10 + x.count(10), 621);
        Due.is("30", Due.avenue(x, "c".repeat(30)), 30);
        int[] want = {30, 0, 0, 0, 0, 0, 0, 30, 1, 1, 0};
        for (int what = 0; what < want.length; what++) {
            Due.is("anew: count(" + what + ")", x.count(what), want[what]);
        }
        Due.is("nothing is kept", x.again(0), false);
        Due.is("four", Due.avenue(x, "...c"), 4);
        Due.is("corners of before are gone", x.count(7), 1);
    }

    private static void hearses() {
        BehindAnotherHearse x = new BehindAnotherHearse();
        Due.avenue(x, ".".repeat(30));
        Due.is("one digit", Due.hearses(x, "5"), 1);
        Due.is("on another one", Due.hearses(x, "7;05"), -4);
        Due.is("nothing of it came", x.count(1), 1);
        Due.is("the gate", Due.hearses(x, "29"), -2);
        Due.is("beyond", Due.hearses(x, "30"), -2);
        Due.is("a third digit", Due.hearses(x, "100"), -3);
        Due.is("a bad cell ahead of a bad sign", Due.hearses(x, "5x"), -1);
        Due.is("a bad sign", Due.hearses(x, "6x"), -2);
        Due.is("a line without a digit", Due.hearses(x, "6;;7"), -3);
        Due.is("the end behind ;", Due.hearses(x, "6;"), -3);
        Due.is("an empty text", Due.hearses(x, ""), 0);
        Due.is("five more", Due.hearses(x, "10;11;12;13;28"), 5);
        Due.is("no room", Due.hearses(x, "20"), -1);
        Due.is("no room, whatever it is", Due.hearses(x, "x"), -1);
        Due.is("nothing of it, though there is no room", Due.hearses(x, ""), 0);
        Due.is("by their numbers", x.hearse(5, 0), 28);

        BehindAnotherHearse y = new BehindAnotherHearse();
        Due.avenue(y, ".".repeat(30));
        Due.is("a seventh line", Due.hearses(y, "1;2;3;4;5;6;7"), -13);
        Due.is("17 and more", Due.hearses(y, "10;11;12;13;14;15;16"), -18);
        Due.is("17 and another sign", Due.hearses(y, "10;11;12;13;14;15x"), -18);
        Due.is("a fault in the first 17", Due.hearses(y, "10;11;12;13;14;14;16"), -17);
        Due.is("17, the last one a ;", Due.hearses(y, "1;11;12;13;14;15;"), -18);
        Due.is("a seventh line at 16", Due.hearses(y, "1;2;13;14;15;16;7"), -17);
        Due.is("none has come", y.count(1), 0);
        Due.is("17", Due.hearses(y, "10;11;12;13;14;15"), 6);
        y.steps(1);
        Due.is("an empty text forgets nothing", Due.hearses(y, "") * 10 + y.count(10), 1);
        Due.is("a refused one forgets nothing", Due.hearses(y, "1") * 10 + y.count(10), -9);
        BehindAnotherHearse z = Due.scene("......", "4", "", "9");
        z.steps(1);
        Due.is("where one was that has arrived", Due.hearses(z, "4"), 1);
        Due.is("hearses forget what can be undone", z.count(10), 0);
        Due.is("STEP stays", z.count(3), 1);
    }

    private static void mourners() {
        BehindAnotherHearse x = Due.scene("..........", "0;1", "", "");
        Due.is("a letter is due", Due.mourners(x, "1"), -2);
        Due.is("another letter", Due.mourners(x, "1c"), -2);
        Due.is("a letter beyond f", Due.mourners(x, "1g"), -2);
        Due.is("the gate", Due.mourners(x, "9a"), -1);
        Due.is("the gate ahead of the end", Due.mourners(x, "9"), -1);
        Due.is("beyond", Due.mourners(x, "12a"), -2);
        Due.is("a third digit", Due.mourners(x, "001a"), -3);
        Due.is("a sign behind the letter", Due.mourners(x, "1ab"), -3);
        Due.is("the end behind ;", Due.mourners(x, "1a;"), -4);
        Due.is("a fault in the second", Due.mourners(x, "1a;2c"), -5);
        Due.is("no digit", Due.mourners(x, "a"), -1);
        Due.is("nothing came", x.count(2), 0);
        Due.is("three", Due.mourners(x, "1a;08b;1a"), 3);
        Due.is("CELL", x.mourner(1, 0), 8);
        Due.is("OWN", x.mourner(1, 1), 1);
        Due.is("a ninth line", Due.mourners(x, "1a;2a;3a;4a;5a;6a"), -16);
        Due.is("five more", Due.mourners(x, "1a;2a;3a;4a;5b"), 5);
        Due.is("no room", Due.mourners(x, "1a"), -1);
        Due.is("an empty text", Due.mourners(x, ""), 0);
        x.steps(1);
        Due.is("an empty text forgets nothing", Due.mourners(x, "") * 10 + x.count(10), 1);

        BehindAnotherHearse y = Due.scene("..........", "7;1", "1a", "3");
        y.steps(1);
        Due.is("an OWN one that has arrived is there", Due.mourners(y, "4a;5b"), 2);
        Due.is("mourners forget what can be undone", y.count(10), 0);
        Due.is("nobody FOLLOWS at first", y.mourner(1, 2), -1);
        Due.is("nobody has ENDED at first", y.mourner(2, 3), -1);
        Due.is("a text of 31 signs", Due.mourners(new BehindAnotherHearse(), "01a"), -3);
        BehindAnotherHearse z = Due.scene("............", "0", "", "");
        Due.is("eight of three signs", Due.mourners(z, "10a;09a;08a;07a;06a;05a;04a;03a"), 8);
        BehindAnotherHearse w = Due.scene("............", "0", "", "");
        Due.is("a ninth of three signs", Due.mourners(w, "10a;09a;08a;07a;06a;05a;04a;03a;02a;01a;00a"), -33);
    }

    private static void weather() {
        BehindAnotherHearse x = Due.scene("....", "", "", "");
        Due.is("none", Due.weather(x, ""), -1);
        Due.is("a sign that is no digit", Due.weather(x, "12a"), -3);
        Due.is("21", Due.weather(x, "123456789012345678901"), -21);
        Due.is("a fault ahead of 21", Due.weather(x, "1234567890123456789x1"), -20);
        Due.is("it stays as at first", x.count(8), 0);
        Due.is("three", Due.weather(x, "597"), 3);
        int[] want = {5, 9, 7, 5, 9};
        for (int step = 0; step < want.length; step++) {
            Due.is("of STEP " + step, x.count(8), want[step]);
            x.steps(1);
        }
        Due.is("a refused one changes nothing", Due.weather(x, "5.") * 10 + x.count(8), -13);
        Due.is("20", Due.weather(x, "12345678901234567890"), 20);
        Due.is("of STEP 5 of 20", x.count(8), 6);
        x.undo();
        Due.is("undo() leaves it", x.count(8), 5);
        Due.avenue(x, "....");
        Due.is("avenue() leaves it", x.count(8), 1);
    }

    private static void rules() {
        BehindAnotherHearse x = new BehindAnotherHearse();
        String[] good = {"1", "999", "-1", "---g", "1+2*3", "(1)", "((((1))))", "p<g", "(1<2)=(2>1)", "1--1", "2*-3",
            "pgcwtim".replace("", "+").substring(1, 14), "1234".substring(1), "-(p)", "(1)+(2)", "1/0", "1<2",
            "1+".repeat(19) + "11"};
        for (String text : good) {
            Due.is("rule " + text, Due.rule(x, text), 0);
        }
        Due.is("an empty one", Due.rule(x, ""), 0);
        Object[][] bad = {{"z", 0}, {"p+", 2}, {"1234", 3}, {"(1", 2}, {"1)", 1}, {"()", 1}, {"1<2<3", 3}, {"1<2=3", 3},
            {"(1<2>1)", 4}, {"((((( 1", 4}, {"(((((1)))))", 4}, {"1+*2", 2}, {"*1", 0}, {"-", 1}, {"--", 2}, {"1 + 2", 1},
            {"pg", 1}, {"1(2)", 1}, {"(1)2", 3}, {"(1)(2)", 3}, {"1<", 2}, {"<1", 0}, {"1~", 1}, {"~1", 0}, {"1+2)", 3},
            {"((((1))))<1<2", 11}, {"p1", 1}, {"1p", 1}, {"(", 1}, {")", 0}, {"1=-", 3}, {"+1", 0}, {"1,2", 1},
            {"1+".repeat(20), 40}, {"1+".repeat(20) + "1", 40}, {"1+".repeat(20) + "x", 40}, {"1+".repeat(19) + "111", 40},
            {"1+".repeat(19) + "1x", 39}, {"1+".repeat(19) + "1x1+1", 39}, {"1+".repeat(18) + "(1+1+1)", 40},
            {"1+".repeat(18) + "(1+1", 40}, {"1+".repeat(19) + "((1))", 40}, {"1+".repeat(19) + "1)", 39}};
        for (Object[] one : bad) {
            Due.is("rule " + one[0], Due.rule(x, (String) one[0]), -1 - (Integer) one[1]);
        }
        paces();
        plainRuleIsBack();
    }

    /** PACE of hearse 1 on CELL 3 (a corner) of twelve, with hearse 0 on 8, STEP 12, weather 7 and two who FOLLOW it. */
    private static void paces() {
        BehindAnotherHearse x = Due.scene("...c........", "8;3", "3a;4b;8a", "0");
        Due.weather(x, "01234567");
        x.steps(12);
        Due.weather(x, "7");
        Object[][] want = {{"p", 3}, {"p-1", 2}, {"g-2", 2}, {"g", 3}, {"c", 1}, {"w-5", 2}, {"t", 2}, {"i", 1}, {"m", 2},
            {"-1", 0}, {"4", 3}, {"--2", 2}, {"---2+4", 2}, {"1+2*3-5", 2}, {"(1+2)*3-7", 2}, {"7/2-1", 2}, {"-7/2+5", 2},
            {"1/0", 0}, {"5-1/0-3", 2}, {"8-4-2", 2}, {"8/2/2", 2}, {"8/2*2-6", 2}, {"1<2", 1}, {"2<1", 0}, {"1<1", 0},
            {"2>1", 1}, {"1>1", 0}, {"1=1", 1}, {"1=2", 0}, {"1+1<2", 0}, {"1+(1<2)", 2}, {"(p=3)+(g=4)", 2},
            {"-p*-1", 3}, {"-p+5", 2}, {"-(p-5)", 2}, {"2--1", 3}, {"999*999*999*999*999-0>0", 0},
            {"999*999*999>0", 1}, {"999*999*999*5>0", 1}, {"999*999*3000", -1}, {"0-999*999*999*3>0", 1}, {"-2*-1", 2},
            {"1-(2<3)-0", 0}, {"6/-3+4", 2}, {"2=2*1", 1},
            {"2+(2<1)", 2}, {"2+(1>2)", 2}, {"2+(1=2)", 2}, {"((((2))))", 2}, {"100/33", 3}, {"009-7", 2}};
        for (Object[] one : want) {
            if ((Integer) one[1] < 0) {
                Due.is("rule " + one[0], Due.rule(x, (String) one[0]), -12);
                continue;
            }
            Due.is("rule " + one[0], Due.rule(x, (String) one[0]), 0);
            Due.is("PACE by " + one[0], x.hearse(1, 2), (Integer) one[1]);
        }
        Due.rule(x, "g");
        Due.is("THE GATE is free", x.hearse(0, 2), 3);
        Due.rule(x, "g=3");
        Due.is("THE GATE counts", x.hearse(0, 2), 1);
        Due.rule(x, "m");
        Due.is("one FOLLOWS it", x.hearse(0, 2), 1);
        Due.rule(x, "c+i");
        Due.is("no corner, number 0", x.hearse(0, 2), 0);
    }

    private static void plainRuleIsBack() {
        BehindAnotherHearse x = Due.scene("..........", "0;3;7", "", "3");
        Due.is("another rule", x.hearse(0, 2), 3);
        Due.is("a fault", Due.rule(x, "1+"), -3);
        Due.is("leaves it", x.hearse(0, 2), 3);
        Due.avenue(x, "..........");
        Due.hearses(x, "0;3;7");
        Due.is("avenue() leaves it", x.hearse(0, 2), 3);
        Due.rule(x, "");
        Due.is("2 free: 1", x.hearse(0, 2), 1);
        Due.is("3 free: 2", x.hearse(1, 2), 2);
        Due.is("2 free to THE GATE: 1", x.hearse(2, 2), 1);
    }

    private static void hearseAndMourner() {
        BehindAnotherHearse x = Due.scene("..........", "8;4;0", "8b;6a;2c;8a", "2");
        x.steps(1);
        int[][] hearses = {{-1, 1, 0, 9, 9, 10}, {6, 0, 2, 2, 0, 1}, {2, 0, 2, 4, 0, 4}};
        // Mourners 0 and 3 stand beside hearse 1 (CELL 6) when hearse 0 has arrived, so they FOLLOW it at first.
        hearses[0][3] = 0;
        hearses[0][4] = 0;
        hearses[1][3] = 11;
        for (int h = 0; h < 3; h++) {
            for (int what = 0; what < 6; what++) {
                Due.is("hearse(" + h + ", " + what + ")", x.hearse(h, what), hearses[h][what]);
            }
        }
        int[][] mourners = {{6, 1, 1, -1, 1}, {6, 0, 1, -1, 1}, {2, 2, 2, -1, 2}, {6, 0, 1, -1, 1}};
        for (int m = 0; m < 4; m++) {
            for (int what = 0; what < 5; what++) {
                Due.is("mourner(" + m + ", " + what + ")", x.mourner(m, what), mourners[m][what]);
            }
        }
        x.steps(2);
        Due.is("who ENDED at it", x.hearse(1, 4), 11);
        Due.is("where it ENDED", x.mourner(3, 3), 1);
        Due.is("who has ENDED FOLLOWS it still", x.mourner(3, 2), 1);
        Due.is("the nearest one, of one that has ENDED", x.mourner(3, 4), 2);
        x.steps(9);
        Due.is("none is near when all have ARRIVED", x.mourner(0, 4), -1);
        Due.none("hearse(3, 0)", () -> x.hearse(3, 0));
        Due.none("hearse(-1, 0)", () -> x.hearse(-1, 0));
        Due.none("hearse(0, 6)", () -> x.hearse(0, 6));
        Due.none("hearse(0, -1)", () -> x.hearse(0, -1));
        Due.none("mourner(4, 0)", () -> x.mourner(4, 0));
        Due.none("mourner(-1, 0)", () -> x.mourner(-1, 0));
        Due.none("mourner(0, 5)", () -> x.mourner(0, 5));
        Due.none("mourner(0, -1)", () -> x.mourner(0, -1));

        BehindAnotherHearse y = Due.scene("..........", "2;6", "4a;0a;8a;3b", "");
        int[] nearest = {1, 0, 1, 0};
        for (int m = 0; m < 4; m++) {
            Due.is("the nearest one, the one ahead of equal ones", y.mourner(m, 4), nearest[m]);
        }
    }

    private static void sheets() {
        BehindAnotherHearse x = Due.scene("..........", "0", "1a;2a;3a;4a", "");
        Due.is("ints", x.sheet(2, 3, 2, 2), 2 + 4 + 6);
        Due.is("those behind it have 0", x.mourner(3, 0), 0);
        Due.is("put to the one ahead of THE GATE", x.sheet(2, 4, 7, 1), 7 + 8 + 8 + 8);
        Due.is("put to 0", x.sheet(2, 4, 1, -1), 1);
        Due.is("bytes", x.sheet(0, 4, 250, 3), 0 + 0 + 0 + 3);
        Due.is("shorts", x.sheet(1, 4, 65533, 2), 0 + 0 + 1 + 3);
        Due.is("ints that come round", x.sheet(2, 4, 2147483647, 1), 8 + 0 + 0 + 0);
        Due.is("bytes of large ints", x.sheet(0, 4, 0x7FFFFF05, 256), 20);
        Due.is("more entries than mourners", x.sheet(2, 8, 1, 0), 4);
        Due.is("n above 8", x.sheet(2, 9, 5, 0), -1);
        Due.is("n above 8 of a missing one", x.sheet(3, 9, 5, 0), -1);
        Due.is("another kind", x.sheet(4, 1, 5, 0), -1);
        Due.is("another kind below 0", x.sheet(-1, -1, 5, 0), -1);
        Due.is("n below 0", x.sheet(0, -1, 5, 0), -2);
        Due.is("nothing has changed", x.mourner(3, 0), 1);
        Due.is("missing, n below 0", x.sheet(3, -1, 5, 0), -3);
        Due.is("all 0", x.mourner(0, 0) + x.mourner(1, 0) + x.mourner(2, 0) + x.mourner(3, 0), 0);
        Due.is("n 0", x.sheet(0, 0, 5, 0), 0);

        BehindAnotherHearse y = Due.scene("......", "3;0", "3a;0a", "3*(i=0)");
        y.steps(1);
        Due.is("FOLLOWS while it can", y.count(5), 0);
        BehindAnotherHearse z = Due.scene("......", "2;0", "2a;0a", "i=0");
        z.steps(3);
        Due.is("one has ENDED", z.hearse(0, 4), 1);
        Due.is("its entry does nothing", z.sheet(2, 2, 1, 1), z.mourner(0, 0) + 2);
        Due.is("nor does a missing sheet", z.sheet(3, 0, 0, 0) * 10 + z.mourner(0, 0), -30 + 4);
    }
}
