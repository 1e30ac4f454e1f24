/** Promises 1 to 9: a new object, the text of a sky, meteors, lookers, what is told of them one by one. */
public final class SkyAsToldTest {
    private SkyAsToldTest() {
    }

    public static void main(String[] args) {
        newObject();
        textTells();
        textFaultsOfBytes();
        textFaultsOfStatements();
        textComesWholeOrNotAtAll();
        textRefused();
        meteorsByKind();
        lookers();
        falls();
        meant();
        looks();
        runs();
        frees();
        Check.end();
    }

    private static void newObject() {
        MeteorsAreProposals x = new MeteorsAreProposals();
        Check.due("1: count(0)", x.count(0), 0);
        Check.due("1: meteor(0, 0)", x.meteor(0, 0), -1);
        for (int l = 0; l < 5; l++) {
            Check.due("1: roof", x.looker(l, 0), 3 * l);
            Check.due("1: quick", x.looker(l, 1), 5);
            Check.due("1: said", x.looker(l, 2), 9);
        }
        for (int d = 0; d < 8; d++) {
            Check.due("1: shelf", x.cost(d), -11);
        }
        Check.due("1: restore", x.restore(), -3);
    }

    private static void textTells() {
        MeteorsAreProposals x = new MeteorsAreProposals();
        Check.due("2: all statements", Check.text(x, 0, "m04032122;l2158;r12;f1;"), 4);
        Check.due("2: kind", x.meteor(0, 0), 0);
        Check.due("2: figure", x.meteor(0, 1), 4);
        Check.due("2: column", x.meteor(0, 2), 3);
        Check.due("2: slope", x.meteor(0, 3), 2);
        Check.due("2: night", x.meteor(0, 4), 12);
        Check.due("2: for", x.meteor(0, 5), 2);
        Check.due("2: roof", x.looker(2, 0), 15);
        Check.due("2: quick", x.looker(2, 1), 8);
        Check.due("2: 1 is free again", x.looker(1, 2), 9);
        Check.due("2: the row stays", x.element(0, 0), 'm');
        Check.due("2: told again on what is", Check.text(x, 0, "r12;r12;"), 2);
        Check.due("2: 1 says yes", x.looker(1, 2), 0);
        Check.due("2: free may be told of a free one", Check.text(x, 0, "f4;"), 1);
        Check.due("2: highest numbers", Check.text(x, 0, "m79154309;l4159;r30;f4;"), 4);
    }

    private static void fault(String text, int due) {
        MeteorsAreProposals x = new MeteorsAreProposals();
        Check.due("2: " + text, Check.text(x, 3, text), due);
        Check.due("2: nothing came of " + text, x.count(0), 0);
    }

    private static void textFaultsOfBytes() {
        fault("", -1000);
        fault(";", -1000);
        fault("x", -1000);
        fault("M00000009;", -1000);
        fault("m", -1001);
        fault("m0000000;", -1008);
        fault("m00000009", -1009);
        fault("m000000099;", -1009);
        fault("m00000009;;", -1010);
        fault("m00000009; ", -1010);
        fault("m00000009;m", -1011);
        fault("l0000;l000;", -1010);
        fault("l000a;", -1004);
        fault("r1;", -1002);
        fault("r", -1001);
        fault("r001;", -1003);
        fault("f;", -1001);
        fault("f00;", -1002);
        fault("f/;", -1001);
        fault("f:;", -1001);
        fault("f0" + (char) 0, -1002);
        // a wrong byte is told ahead of a wrong statement before it
        fault("m90000009;q", -1010);
    }

    private static void textFaultsOfStatements() {
        fault("m80000009;", -2000);
        fault("m00160009;", -2000);
        fault("m00005009;", -2000);
        fault("m00000319;", -2000);
        fault("m00000005;", -2000);
        fault("m00000006;", -2000);
        fault("m00000007;", -2000);
        fault("m00000008;", -2000);
        fault("l5000;", -2000);
        fault("l0160;", -2000);
        fault("r31;", -2000);
        fault("f5;", -2000);
        fault("f9;", -2000);
        fault("m00000009;f4;r31;l5000;", -2013);
    }

    private static void textComesWholeOrNotAtAll() {
        MeteorsAreProposals x = Check.told("m09032009;r00;");
        Check.due("2: 1 has it", x.looker(1, 2), 0);
        Check.due("2: fault at the end", Check.text(x, 0, "m00000009;l0129;f1;r00;r31;"), -2023);
        Check.due("2: no meteor came", x.count(0), 1);
        Check.due("2: no looker went", x.looker(0, 0), 0);
        Check.due("2: none is free", x.looker(1, 2), 0);
        Check.due("2: none said yes", x.waiting(), 29);
        String eight = "m00000009;m00000009;m00000009;m00000009;m00000009;m00000009;m00000009;";
        Check.due("2: room for just 8", Check.text(x, 0, eight), 7);
        Check.due("2: count", x.count(0), 8);
        Check.due("2: no room", Check.text(x, 0, "f0;m00000009;"), -2003);
        MeteorsAreProposals y = new MeteorsAreProposals();
        Check.due("2: no room in the ninth", Check.text(y, 0, eight + "m00000009;m00000009;"), -2080);
        Check.due("2: nothing came", y.count(0), 0);
        Check.due("2: statements see those ahead", Check.text(y, 0, "m09032009;r00;f1;l1085;l2035;r00;"), 6);
        Check.due("2: 1 let it go", y.looker(1, 2), 9);
        Check.due("2: 2 took it then", y.looker(2, 2), 0);
    }

    private static void textRefused() {
        MeteorsAreProposals x = new MeteorsAreProposals();
        Check.due("2: shelf -1", x.sky(-1), -1);
        Check.due("2: shelf 8", x.sky(8), -1);
        Check.due("2: nothing", x.sky(0), -11);
        x.keep(0, 1, 0, 0);
        Check.due("2: a kind", x.sky(0), -12);
        x.row(0, 1, 10);
        Check.due("2: shorts", x.sky(0), -12);
        x.row(0, 2, 0);
        Check.due("2: ints", x.sky(0), -12);
    }

    private static void meteorsByKind() {
        // kind, figure, lasts, bright, period, heat
        int[][] laws = {
            {0, 0, 3, 2, 3, 0}, {0, 8, 5, 2, 11, 8}, {0, 9, 6, 2, 12, 9},
            {1, 0, 6, 1, 5, 0}, {1, 5, 8, 1, 10, 5}, {1, 9, 12, 1, 14, 9},
            {2, 0, 3, -1, 6, 0}, {2, 9, 6, -1, 24, 9},
            {3, 0, 2, 2, 3, 0}, {3, 5, 3, 4, 8, 10}, {3, 9, 5, 6, 12, 18},
            {4, 0, 8, 1, 5, 0}, {4, 3, 10, 1, 8, 0}, {4, 4, 10, 1, 9, 1}, {4, 9, 14, 1, 14, 6},
            {5, 0, 3, 0, 6, 0}, {5, 9, 6, 0, 24, 0},
            {6, 0, 3, 2, 3, 0}, {6, 6, 8, 2, 9, 6}, {6, 7, 8, 2, 7, 7}, {6, 9, 10, 2, 7, 9},
            {7, 0, 1, 4, 1, 0}, {7, 3, 1, 6, 1, 3}, {7, 9, 1, 12, 1, 9},
        };
        for (int[] law : laws) {
            MeteorsAreProposals x = new MeteorsAreProposals();
            x.keep(0, 1, law[0], law[1]);
            x.falls(0, 15, 4, 30);
            String name = "3: kind " + law[0] + " figure " + law[1];
            Check.due(name, x.meteor(0, 0), law[0]);
            Check.due(name, x.meteor(0, 1), law[1]);
            Check.due(name, x.meteor(0, 2), 15);
            Check.due(name, x.meteor(0, 3), 4);
            Check.due(name, x.meteor(0, 4), 30);
            Check.due(name, x.meteor(0, 5), 9);
            Check.due(name + " lasts", x.meteor(0, 6), law[2]);
            Check.due(name + " bright", x.meteor(0, 7), law[3] + 10);
            Check.due(name + " period", x.meteor(0, 8), law[4]);
            Check.due(name + " heat", x.meteor(0, 9), law[5]);
            Check.due("3: what 10", x.meteor(0, 10), -1);
            Check.due("3: what -1", x.meteor(0, -1), -1);
            Check.due("3: no such one", x.meteor(1, 0), -1);
            Check.due("3: below 0", x.meteor(-1, 0), -1);
        }
    }

    private static void lookers() {
        MeteorsAreProposals x = new MeteorsAreProposals();
        int[] need = {4, 4, 4, 3, 3, 3, 2, 2, 2, 1};
        for (int quick = 0; quick < 10; quick++) {
            x.looks(4, 1, quick);
            Check.due("4: quick", x.looker(4, 1), quick);
            Check.due("4: need", x.looker(4, 3), need[quick]);
        }
        Check.due("4: roof", x.looker(4, 0), 1);
        Check.due("4: said", x.looker(4, 2), 9);
        Check.due("4: what 4", x.looker(4, 4), -1);
        Check.due("4: what -1", x.looker(4, -1), -1);
        Check.due("4: looker 5", x.looker(5, 0), -1);
        Check.due("4: looker -1", x.looker(-1, 0), -1);
    }

    private static void falls() {
        MeteorsAreProposals x = new MeteorsAreProposals();
        Check.due("5: nothing", x.falls(0, 0, 0, 0), -11);
        Check.due("5: -1 ahead of -11", x.falls(0, 16, 0, 0), -1);
        x.row(0, 0, 3);
        Check.due("5: a row", x.falls(0, 0, 0, 0), -12);
        Check.due("5: -1 ahead of -12", x.falls(0, 0, 0, 31), -1);
        x.keep(0, 1, 6, 2);
        Check.due("5: shelf", x.falls(8, 0, 0, 0), -1);
        Check.due("5: shelf below 0", x.falls(-1, 0, 0, 0), -1);
        Check.due("5: column", x.falls(0, -1, 0, 0), -1);
        Check.due("5: slope", x.falls(0, 0, 5, 0), -1);
        Check.due("5: slope below 0", x.falls(0, 0, -1, 0), -1);
        Check.due("5: night", x.falls(0, 0, 0, -1), -1);
        for (int m = 0; m < 8; m++) {
            Check.due("5: number", x.falls(0, m, m % 5, m), m);
        }
        Check.due("5: no room", x.falls(0, 0, 0, 0), -2);
        Check.due("5: -1 ahead of -2", x.falls(0, 0, 0, 31), -1);
        Check.due("5: -11 ahead of -2", x.falls(1, 0, 0, 0), -11);
        Check.due("5: the shelf stays", x.cost(0), 6);
        Check.due("5: eight", x.count(0), 8);
        x.keep(0, 1, 3, 9);
        Check.due("5: what fell stays as it was", x.meteor(7, 0), 6);
    }

    private static void meant() {
        MeteorsAreProposals x = Check.told("m00000009;m00000003;");
        Check.due("6: was nobody's", x.meant(0, 4), 9);
        Check.due("6: was 4's", x.meant(0, 0), 4);
        Check.due("6: is 0's", x.meteor(0, 5), 0);
        Check.due("6: was 3's", x.meant(1, 9), 3);
        Check.due("6: is nobody's", x.meteor(1, 5), 9);
        for (int l = 5; l < 9; l++) {
            Check.due("6: no such one", x.meant(0, l), -1);
        }
        Check.due("6: 10", x.meant(0, 10), -1);
        Check.due("6: below 0", x.meant(0, -1), -1);
        Check.due("6: no such meteor", x.meant(2, 0), -1);
        Check.due("6: nothing changed", x.meteor(0, 5), 0);
    }

    private static void looks() {
        MeteorsAreProposals x = new MeteorsAreProposals();
        Check.due("7: was", x.looks(3, 15, 0), 9);
        Check.due("7: roof", x.looker(3, 0), 15);
        Check.due("7: quick", x.looker(3, 1), 0);
        Check.due("7: was 15", x.looks(3, 2, 9), 15);
        Check.due("7: looker", x.looks(5, 0, 0), -1);
        Check.due("7: looker below 0", x.looks(-1, 0, 0), -1);
        Check.due("7: roof", x.looks(3, 16, 0), -1);
        Check.due("7: roof below 0", x.looks(3, -1, 0), -1);
        Check.due("7: quick", x.looks(3, 0, 10), -1);
        Check.due("7: quick below 0", x.looks(3, 0, -1), -1);
        Check.due("7: nothing changed", x.looker(3, 0), 2);
        Check.due("7: nothing changed", x.looker(3, 1), 9);
    }

    private static void runs() {
        // both over column 3, seen by 1 from roof 3 in all steps; others see them from roofs 1 to 5 only
        MeteorsAreProposals x = Check.told("m09032049;m09032049;m00072049;m09032059;");
        Check.due("8: other night", x.run(3), 0);
        Check.due("8: night 4", x.run(4), 2);
        Check.due("8: 1 has 0", x.looker(1, 2), 0);
        Check.due("8: nobody is left for 1, 2 has the third", x.looker(2, 2), 2);
        Check.due("8: again", x.run(4), 0);
        Check.due("8: all near are taken", x.run(5), 0);
        x.free(1);
        Check.due("8: one that was let go is there again", x.run(4), 1);
        Check.due("8: 1 has 0 again", x.looker(1, 2), 0);
        Check.due("8: night 31", x.run(31), -1);
        Check.due("8: night -1", x.run(-1), -1);
        // the quicker takes it, though the other one has the lesser number
        MeteorsAreProposals y = Check.told("l0035;l1037;m09032009;");
        Check.due("8: one", y.run(0), 1);
        Check.due("8: the quicker", y.looker(1, 2), 0);
        // of two who say yes in one step the least
        MeteorsAreProposals z = Check.told("l3035;l1035;m09032009;m09032009;m09032009;");
        Check.due("8: two", z.run(0), 2);
        Check.due("8: the least first", z.looker(1, 2), 0);
        Check.due("8: then the other", z.looker(3, 2), 1);
        // a meteor comes back by its period, but is run in its own night alone
        MeteorsAreProposals w = Check.told("m00032009;");
        Check.due("8: not when it comes back", w.run(3), 0);
        Check.due("8: but there", w.run(0), 1);
    }

    private static void frees() {
        MeteorsAreProposals x = Check.told("m00032009;r00;");
        Check.due("9: had 0", x.free(1), 0);
        Check.due("9: none", x.free(1), 9);
        Check.due("9: said", x.looker(1, 2), 9);
        Check.due("9: looker 5", x.free(5), -1);
        Check.due("9: looker -1", x.free(-1), -1);
    }
}
