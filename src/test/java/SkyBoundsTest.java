/** Promises 1 to 9 at the edges that the document names: least and greatest, empty and full, orders, cuts, faults. */
public final class SkyBoundsTest {
    private static final String SEVEN = "m00002009;".repeat(7);

    private SkyBoundsTest() {
    }

    public static void main(String[] args) {
        newObject();
        objectsAreApart();
        textOfOneByte();
        textDigits();
        textEnds();
        textRangesOfMeteors();
        textRangesOfOthers();
        textRoom();
        textLongest();
        textFirstFault();
        textOneBehindTheOther();
        textStaysAsItIs();
        lookersAtFirst();
        lookersNeed();
        fallsFromEdgeToEdge();
        fallsUntilFull();
        meant();
        looks();
        runNights();
        runColumns();
        runNeed();
        runOrders();
        runFull();
        runThoseLeft();
        free();
        Check.end();
    }

    private static void newObject() {
        MeteorsAreProposals x = new MeteorsAreProposals();
        int[] counts = {0, 0, 0, 25, 30, 0};
        for (int what = 0; what < 6; what++) {
            Check.due("1: count " + what, x.count(what), counts[what]);
        }
        for (int m = 0; m < 8; m++) {
            for (int what = 0; what < 10; what++) {
                Check.due("1: no meteor " + m, x.meteor(m, what), -1);
            }
            Check.due("1: no meteor to take " + m, x.taker(m), -1);
        }
        Check.due("1: unseen", x.unseen(), 0);
        Check.due("1: mistakes", x.mistakes(), 0);
        Check.due("1: waiting", x.waiting(), 31);
        for (int d = 0; d < 8; d++) {
            Check.due("1: nothing on shelf " + d, x.put(d, 0, 0), -11);
            Check.due("1: nothing on shelf " + d, x.toss(d), -11);
        }
        Check.due("1: no image", x.restore(), -3);
        Check.due("1: still none", x.image(), 0);
    }

    private static void objectsAreApart() {
        MeteorsAreProposals x = Whole.coast(Whole.ALL_METEORS, "f0;");
        MeteorsAreProposals y = new MeteorsAreProposals();
        Check.due("1: none in the other one", y.count(0), 0);
        Check.due("1: roofs of the other one", y.count(4), 30);
        Check.due("1: quick of the other one", y.count(3), 25);
        Check.due("1: waiting in the other one", y.waiting(), 31);
        Check.due("1: no image of the other one", y.restore(), -3);
        Check.due("1: nothing on the other one's shelf", y.cost(0), -11);
        Check.due("1: the first one stays", x.count(0), 8);
    }

    private static int sky(String text) {
        return Check.text(new MeteorsAreProposals(), 0, text);
    }

    private static String with(String text, int place, int sign) {
        return text.substring(0, place) + (char) sign + text.substring(place + 1);
    }

    /** Each byte as the first one, as a digit, as the end of a statement, as the first one of the next. */
    private static void textOfOneByte() {
        for (int sign = 0; sign < 256; sign++) {
            char one = (char) sign;
            boolean letter = "mlrf".indexOf(one) >= 0;
            boolean digit = "0123456789".indexOf(one) >= 0;
            Check.due("2: byte " + sign + " first", sky("" + one), letter ? -1001 : -1000);
            Check.due("2: byte " + sign + " second", sky("f" + one), digit ? -1002 : -1001);
            Check.due("2: byte " + sign + " third", sky("f0" + one), one == ';' ? 1 : -1002);
            Check.due("2: byte " + sign + " fourth", sky("f0;" + one), letter ? -1004 : -1003);
        }
    }

    /** Each place of each statement: the sign below 0, the sign above 9, a letter, the end where a digit stands. */
    private static void textDigits() {
        String[] statements = {"m04032122;", "l2158;", "r12;", "f1;"};
        for (String statement : statements) {
            int end = statement.length() - 1;
            Check.due("2: " + statement, sky("f0;" + statement), 2);
            for (int place = 1; place < end; place++) {
                char[] noDigits = {'/', ':', 'm', ';', ' ', '-', (char) 0, (char) 128, (char) 255};
                for (char one : noDigits) {
                    int fault = sky("f0;" + with(statement, place, one));
                    Check.due("2: " + (int) one + " at " + place + " of " + statement, fault, -1003 - place);
                }
            }
            char[] noEnds = {':', '<', '0', 'm', ' ', (char) (';' + 128)};
            for (char one : noEnds) {
                Check.due("2: no end of " + statement, sky("f0;" + with(statement, end, one)), -1003 - end);
            }
            String oneMore = statement.substring(0, end) + "0;";
            Check.due("2: a digit too many in " + statement, sky("f0;" + oneMore), -1003 - end);
            String oneLess = statement.substring(0, end - 1) + ";";
            Check.due("2: a digit too few in " + statement, sky("f0;" + oneLess), -1003 - end + 1);
        }
    }

    /** Whatever lacks, the end is told; with nothing lacking the statements are. */
    private static void textEnds() {
        String text = "m04032122;l2158;r12;f1;";
        for (int length = 0; length <= text.length(); length++) {
            int due = length == 10 ? 1 : length == 16 ? 2 : length == 20 ? 3 : length == 23 ? 4 : -1000 - length;
            Check.due("2: the first " + length + " bytes", sky(text.substring(0, length)), due);
        }
    }

    private static void textRangesOfMeteors() {
        // what of meteor(m, what), the least, the greatest that is taken, what is refused
        String[][] fields = {
            {"0", "m04032122;", "m74032122;", "m84032122;", "m94032122;"},
            {"1", "m00032122;", "m09032122;"},
            {"2", "m04002122;", "m04152122;", "m04162122;", "m04202122;", "m04992122;"},
            {"3", "m04030122;", "m04034122;", "m04035122;", "m04039122;"},
            {"4", "m04032002;", "m04032302;", "m04032312;", "m04032402;", "m04032992;"},
            {"5", "m04032120;", "m04032124;", "m04032125;", "m04032126;", "m04032127;", "m04032128;"},
        };
        int[] greatest = {7, 9, 15, 4, 30, 4};
        for (int what = 0; what < fields.length; what++) {
            String[] field = fields[what];
            Check.due("2: the least of " + what, Check.told(field[1]).meteor(0, what), 0);
            Check.due("2: the greatest of " + what, Check.told(field[2]).meteor(0, what), greatest[what]);
            for (int i = 3; i < field.length; i++) {
                Check.due("2: " + field[i], sky("f0;" + field[i] + "f9;"), -2003);
            }
        }
        Check.due("2: for nobody", Check.told("m04032129;").meteor(0, 5), 9);
    }

    private static void textRangesOfOthers() {
        Check.due("2: looker 0", Check.told("l0142;").looker(0, 0), 14);
        Check.due("2: looker 4", Check.told("l4142;").looker(4, 0), 14);
        Check.due("2: looker 4, quick", Check.told("l4142;").looker(4, 1), 2);
        Check.due("2: roof 0", Check.told("l2000;").looker(2, 0), 0);
        Check.due("2: roof 15", Check.told("l2159;").looker(2, 0), 15);
        Check.due("2: quick 0", Check.told("l2000;").looker(2, 1), 0);
        Check.due("2: quick 9", Check.told("l2159;").looker(2, 1), 9);
        String[] refused = {"l5000;", "l9000;", "l0160;", "l0200;", "l0990;", "r31;", "r40;", "r99;", "f5;", "f9;"};
        for (String one : refused) {
            Check.due("2: " + one, sky("r00;" + one), -2004);
        }
        String[] taken = {"r00;", "r30;", "f0;", "f4;"};
        for (String one : taken) {
            Check.due("2: " + one, sky(one), 1);
        }
        MeteorsAreProposals x = Check.told("m00032009;m00032309;r30;");
        Check.due("2: night 30 is run", x.looker(1, 2), 1);
        Check.due("2: night 0 is run", Check.text(x, 0, "f1;r00;"), 2);
        Check.due("2: night 0 is run", x.looker(1, 2), 0);
    }

    private static void textRoom() {
        for (int already = 0; already <= 8; already++) {
            MeteorsAreProposals x = new MeteorsAreProposals();
            for (int m = 0; m < already; m++) {
                Check.fall(x, 0, 0, 0, 0, 0);
            }
            StringBuilder text = new StringBuilder("r00;");
            for (int m = already; m < 8; m++) {
                text.append("m10002009;");
            }
            String full = text.toString();
            int fault = -2004 - 10 * (8 - already);
            Check.due("2: one more than there is room", Check.text(x, 0, full + "m10002009;"), fault);
            Check.due("2: nothing came", x.count(0), already);
            Check.due("2: just as many as there is room", Check.text(x, 0, full), 9 - already);
            Check.due("2: full", x.count(0), 8);
            Check.due("2: those ahead stay", x.meteor(0, 0), already == 0 ? 1 : 0);
            Check.due("2: the last one", x.meteor(7, 0), already == 8 ? 0 : 1);
            Check.due("2: no room at all", Check.text(x, 0, "m10002009;"), -2000);
            Check.due("2: other statements still go", Check.text(x, 0, "l0000;r00;f0;"), 3);
        }
    }

    /** A row of 100 bytes, full to its end. */
    private static void textLongest() {
        String eight = SEVEN + "m00002009;";
        String hundred = eight + "r01;r02;r03;r04;r30;";
        Check.due("2: a hundred bytes", sky(hundred), 13);
        Check.due("2: the end lacks at 100", sky(with(hundred, 99, '0')), -1099);
        Check.due("2: the last letter", sky(with(hundred, 96, 'q')), -1096);
        Check.due("2: the last statement", sky(with(hundred, 97, '4')), -2096);
        StringBuilder frees = new StringBuilder();
        for (int i = 0; i < 33; i++) {
            frees.append("f4;");
        }
        Check.due("2: 33 statements", sky(frees.toString()), 33);
        Check.due("2: a letter behind them", sky(frees + "f"), -1100);
        Check.due("2: another one", sky(frees + ";"), -1099);
        Check.due("2: digits up to the end", sky("l0000;" + eight + "m0000200000000".substring(0, 14)), -1095);
        Check.due("2: it lacks at the end", sky("l0000;f4;f4;r00;f4;f4;f4;" + SEVEN + "l0000"), -1000 - 25 - 70 - 5);
    }

    private static void textFirstFault() {
        Check.due("2: of several wrong bytes the first", sky("f0;xf1;y"), -1003);
        Check.due("2: of several wrong statements the first", sky("f0;f5;f6;r31;"), -2003);
        Check.due("2: a wrong byte ahead of a wrong statement before it", sky("f5;f6;x"), -1006);
        Check.due("2: what lacks ahead of a wrong statement", sky("f5;f"), -1004);
        Check.due("2: a wrong byte ahead of no room", sky(SEVEN + "m00002009;m00002009;f"), -1091);
        Check.due("2: empty", sky(""), -1000);
        Check.due("2: only ends", sky(";"), -1000);
        Check.due("2: two ends", sky("f0;;"), -1003);
    }

    private static void textOneBehindTheOther() {
        // looker 2 comes to the meteor, takes it, lets it go, and 1 is ahead of her then
        MeteorsAreProposals x = new MeteorsAreProposals();
        Check.due("2: run ahead of the meteor", Check.text(x, 0, "r00;m00142009;l4009;"), 3);
        Check.due("2: nobody has it", x.count(5), 0);
        Check.due("2: run behind it", Check.text(x, 0, "l2149;r00;"), 2);
        Check.due("2: 2 has it", x.looker(2, 2), 0);
        Check.due("2: moved too late", Check.text(x, 0, "f2;r00;l1149;"), 3);
        Check.due("2: 2 has it again", x.looker(2, 2), 0);
        Check.due("2: moved in time", Check.text(x, 0, "f2;l1149;r00;"), 3);
        Check.due("2: 1 has it", x.looker(1, 2), 0);
        Check.due("2: free behind run", Check.text(x, 0, "r00;f1;"), 2);
        Check.due("2: nobody has it", x.waiting(), 31);
    }

    private static void textStaysAsItIs() {
        MeteorsAreProposals x = new MeteorsAreProposals();
        Check.text(x, 3, "m04032122;");
        Check.due("2: told once more", x.sky(3), 1);
        Check.due("2: two by now", x.count(0), 2);
        Check.due("2: the second is as the first", x.meteor(1, 5), 2);
        x.put(3, 1, '9');
        Check.due("2: a fault", x.sky(3), -2000);
        Check.due("2: the row stays with a fault", x.element(3, 1), '9');
        Check.due("2: what fell stays as it was", x.meteor(1, 0), 0);
        x.put(3, 1, 256 + '7');
        Check.due("2: bytes keep their lowest bits", x.sky(3), 1);
        Check.due("2: so it is a 7", x.meteor(2, 0), 7);
    }

    private static void lookersAtFirst() {
        MeteorsAreProposals x = new MeteorsAreProposals();
        for (int l = 0; l < 5; l++) {
            int[] due = {3 * l, 5, 9, 3};
            for (int what = 0; what < 4; what++) {
                Check.due("4: looker " + l + " what " + what, x.looker(l, what), due[what]);
            }
        }
        Check.due("4: above the lookers", x.looker(5, 0), -1);
        Check.due("4: below the lookers", x.looker(-1, 0), -1);
        Check.due("4: above what is told", x.looker(0, 4), -1);
        Check.due("4: below what is told", x.looker(0, -1), -1);
    }

    private static void lookersNeed() {
        MeteorsAreProposals x = new MeteorsAreProposals();
        for (int l = 0; l < 5; l++) {
            for (int quick = 0; quick < 10; quick++) {
                x.looks(l, 15 - l, quick);
                Check.due("4: roof", x.looker(l, 0), 15 - l);
                Check.due("4: quick", x.looker(l, 1), quick);
                Check.due("4: need of quick " + quick, x.looker(l, 3), Told.NEED[quick]);
            }
        }
        MeteorsAreProposals y = Check.told("m00122009;m00002009;" + "m00122009;".repeat(5) + "m00122019;");
        Check.due("4: run", y.run(0), 2);
        Check.due("4: 0 said yes to 1", y.looker(0, 2), 1);
        Check.due("4: 4 said yes to 0", y.looker(4, 2), 0);
        y.free(4);
        y.run(1);
        Check.due("4: 4 said yes to 7", y.looker(4, 2), 7);
        Check.due("4: others none", y.looker(3, 2), 9);
    }

    private static void fallsFromEdgeToEdge() {
        for (int column = 0; column < 16; column++) {
            for (int slope = 0; slope < 5; slope++) {
                MeteorsAreProposals x = new MeteorsAreProposals();
                x.keep(column % 8, 1, 4, 9);
                for (int m = 0; m < 8; m++) {
                    int night = (column + 4 * m) % 31;
                    Check.due("5: number", x.falls(column % 8, column, slope, night), m);
                    Check.due("5: column", x.meteor(m, 2), column);
                    Check.due("5: slope", x.meteor(m, 3), slope);
                    Check.due("5: night", x.meteor(m, 4), night);
                    Check.due("5: for nobody", x.meteor(m, 5), 9);
                }
                Check.due("5: it stays on the shelf", x.cost(column % 8), 16);
                Check.due("5: those ahead stay", x.meteor(0, 4), column);
            }
        }
        MeteorsAreProposals y = new MeteorsAreProposals();
        y.keep(0, 1, 0, 0);
        Check.due("5: the least night", y.falls(0, 0, 0, 0), 0);
        Check.due("5: the greatest night", y.falls(0, 15, 4, 30), 1);
        Check.due("5: night 30", y.meteor(1, 4), 30);
    }

    private static void fallsUntilFull() {
        MeteorsAreProposals x = new MeteorsAreProposals();
        x.keep(7, 1, 6, 1);
        for (int m = 0; m < 8; m++) {
            Check.due("5: number " + m, x.falls(7, m, 2, 0), m);
            Check.due("5: so many", x.count(0), m + 1);
            Check.due("5: none behind it", x.meteor(m + 1, 0), -1);
        }
        Check.due("5: there is no room", x.falls(7, 0, 2, 0), -2);
        Check.due("5: still none", x.falls(7, 0, 2, 0), -2);
        Check.due("5: eight", x.count(0), 8);
        x.row(7, 0, 1);
        Check.due("5: a row ahead of no room", x.falls(7, 0, 2, 0), -12);
        x.keep(7, 0, 0, 0);
        Check.due("5: nothing ahead of no room", x.falls(7, 0, 2, 0), -11);
        Check.due("5: a number out of range ahead of all", x.falls(7, 0, 2, 31), -1);
        MeteorsAreProposals y = new MeteorsAreProposals();
        y.keep(7, 1, 6, 1);
        y.image();
        for (int m = 0; m < 8; m++) {
            y.falls(7, m, 2, 0);
        }
        y.restore();
        Check.due("5: there is room again", y.falls(7, 0, 2, 0), 0);
    }

    private static void meant() {
        MeteorsAreProposals x = Check.told(SEVEN + "m00002004;");
        int was = 9;
        int[] whom = {0, 1, 2, 3, 4, 9, 9, 0};
        for (int l : whom) {
            Check.due("6: whom it was", x.meant(0, l), was);
            Check.due("6: whom it is", x.meteor(0, 5), l);
            was = l;
        }
        Check.due("6: the others stay", x.meteor(1, 5), 9);
        Check.due("6: the last one was 4's", x.meant(7, 9), 4);
        Check.due("6: the last one is nobody's", x.meteor(7, 5), 9);
        Check.due("6: none behind it", x.meant(8, 9), -1);
        Check.due("6: none ahead of the first", x.meant(-1, 9), -1);
        Check.due("6: of none", new MeteorsAreProposals().meant(0, 9), -1);
    }

    private static void looks() {
        MeteorsAreProposals x = Check.told("m00032009;r00;");
        for (int l = 0; l < 5; l++) {
            Check.due("7: the roof at first", x.looks(l, 15, 0), 3 * l);
            Check.due("7: the greatest roof", x.looks(l, 0, 9), 15);
            Check.due("7: the least roof", x.looks(l, 0, 9), 0);
            Check.due("7: quick", x.looker(l, 1), 9);
        }
        Check.due("7: what she said stays", x.looker(1, 2), 0);
        Check.due("7: so do all", x.waiting(), 29);
        x.looks(2, 7, 4);
        Check.due("7: the others stay", x.count(4), 7);
        Check.due("7: the others stay", x.count(3), 40);
    }

    private static void runNights() {
        MeteorsAreProposals x = Check.told("m00002009;m00032019;m00062299;m00092309;");
        Check.due("8: the least night", x.run(0), 1);
        Check.due("8: 0 says yes", x.looker(0, 2), 0);
        Check.due("8: nobody else", x.waiting(), 0b11110);
        Check.due("8: the greatest night", x.run(30), 1);
        Check.due("8: 3 says yes", x.looker(3, 2), 3);
        Check.due("8: nobody else", x.waiting(), 0b10110);
        Check.due("8: a night without meteors", x.run(15), 0);
        Check.due("8: below the nights", x.run(-1), -1);
        Check.due("8: above the nights", x.run(31), -1);
        Check.due("8: a coast without meteors", new MeteorsAreProposals().run(0), 0);
        // each comes back by its period, but is run in its own night alone
        MeteorsAreProposals y = Check.told("l1039;m70032009;m00062009;");
        for (int night = 1; night <= 30; night++) {
            Check.due("8: night " + night, y.run(night), 0);
        }
        Check.due("8: night 0", y.run(0), 2);
    }

    /** Over the edges of the coast and at the edge of what is bright. */
    private static void runColumns() {
        // 15 in all six steps, seen from 13; but not from 12
        MeteorsAreProposals x = Check.told("m09154009;");
        Check.due("8: too far from 12", x.run(0), 0);
        x.looks(4, 13, 0);
        Check.due("8: over 15 in all steps", x.run(0), 1);
        Check.due("8: 4 says yes", x.looker(4, 2), 0);
        // 0 in all six steps, seen from 2, but not from 3
        MeteorsAreProposals y = Check.told("l0159;m09000009;");
        Check.due("8: too far from 3", y.run(0), 0);
        y.looks(2, 2, 0);
        Check.due("8: over 0 in all steps", y.run(0), 1);
        Check.due("8: 2 says yes", y.looker(2, 2), 0);
        // a dark one from its very column, a slate from there alone
        MeteorsAreProposals z = Check.told("m20032009;m50042009;");
        Check.due("8: a dark one, and a slate one column off", z.run(0), 0);
        z.looks(1, 4, 5);
        Check.due("8: the slate", z.run(0), 1);
        Check.due("8: the slate is 1", z.looker(1, 2), 1);
    }

    /** Three steps: seen three times a NEED of 3 says yes, one of 4 does not. */
    private static void runNeed() {
        for (int quick = 0; quick < 10; quick++) {
            MeteorsAreProposals x = Check.told("l103" + quick + ";m00032009;m30122009;");
            Check.due("8: three steps for quick " + quick, x.run(0), quick < 3 ? 0 : 1);
            Check.due("8: said", x.looker(1, 2), quick < 3 ? 9 : 0);
            x.looks(4, 12, quick);
            Check.due("8: two steps for quick " + quick, x.run(0), quick < 6 ? 0 : 1);
        }
    }

    private static void runOrders() {
        MeteorsAreProposals x = Check.told("m00032009;m00032009;m00032009;");
        Check.due("8: 1 alone is near", x.run(0), 1);
        Check.due("8: by numbers the first", x.looker(1, 2), 0);
        // all on one roof and as quick: by numbers of both
        MeteorsAreProposals y = Check.told("l0085;l1085;l2085;l3085;l4085;m00082009;m00082009;m00082009;");
        Check.due("8: three", y.run(0), 3);
        for (int l = 0; l < 5; l++) {
            Check.due("8: of several lookers the least", y.looker(l, 2), l < 3 ? l : 9);
        }
        // the quicker one of greater number is first; the other one takes the next
        MeteorsAreProposals z = Check.told("l0083;l4089;m00082009;m00082009;");
        Check.due("8: two", z.run(0), 2);
        Check.due("8: 4 in step 0", z.looker(4, 2), 0);
        Check.due("8: 0 in step 2", z.looker(0, 2), 1);
        // over 0, 2, 4, ..: 4 sees it in step 1, 0 the third time in step 5
        MeteorsAreProposals w = Check.told("l0083;l1159;l2159;l3159;l4049;m09004009;");
        Check.due("8: one", w.run(0), 1);
        Check.due("8: the least step, not the least number", w.looker(4, 2), 0);
    }

    private static void runFull() {
        MeteorsAreProposals x = Check.told(SEVEN + "m00032009;");
        for (int l = 0; l < 5; l++) {
            x.looks(l, 1, 9);
        }
        Check.due("8: five lookers say yes", x.run(0), 5);
        Check.due("8: to the first five", x.count(5), 0b11111);
        Check.due("8: nobody waits", x.waiting(), 0);
        Check.due("8: nobody is left", x.run(0), 0);
        x.free(0);
        x.free(4);
        Check.due("8: those two", x.run(0), 2);
        Check.due("8: 0 is there again", x.looker(0, 2), 0);
        Check.due("8: 4 is there again", x.looker(4, 2), 4);
        MeteorsAreProposals y = Check.told("m20032009;".repeat(7) + "m00122009;");
        Check.due("8: the last of eight", y.run(0), 1);
        Check.due("8: 4 has 7", y.looker(4, 2), 7);
    }

    /** Only those that nobody has, and only lookers who have none. */
    private static void runThoseLeft() {
        MeteorsAreProposals x = Check.told("l0035;l1035;m00032009;r00;");
        Check.due("8: 0 has it", x.looker(0, 2), 0);
        Check.due("8: it is not there for 1", x.run(0), 0);
        Check.due("8: 1 has none", x.looker(1, 2), 9);
        Check.text(x, 0, "m00032009;");
        Check.due("8: the next one", x.run(0), 1);
        Check.due("8: 0 keeps hers", x.looker(0, 2), 0);
        Check.due("8: 1 has the next one", x.looker(1, 2), 1);
        // the one who would take it of all is no longer free; the slower one takes it
        MeteorsAreProposals y = Check.told("l0039;l1033;m00032009;m00032019;r00;r01;");
        Check.due("8: the quick one", y.looker(0, 2), 0);
        Check.due("8: the slow one", y.looker(1, 2), 1);
        Check.due("8: the taker of all is still the quick one", y.taker(1), 0);
    }

    private static void free() {
        MeteorsAreProposals x = Check.told("m00002009;m00032009;m00062009;m00092009;m00122009;r00;");
        for (int l = 4; l >= 0; l--) {
            Check.due("9: what it was", x.free(l), l);
            Check.due("9: none any more", x.free(l), 9);
            Check.due("9: said", x.looker(l, 2), 9);
            Check.due("9: those below keep theirs", x.waiting(), 31 & -1 << l);
            Check.due("9: those below keep theirs", x.count(5), (1 << l) - 1);
        }
        Check.due("9: the meteors stay", x.count(0), 5);
        Check.due("9: they can be had again", x.run(0), 5);
        Check.due("9: below", x.free(-1), -1);
        Check.due("9: above", x.free(5), -1);
        MeteorsAreProposals y = Check.told("m20002009;".repeat(7) + "m00122009;r00;");
        Check.due("9: the last meteor", y.free(4), 7);
    }
}
