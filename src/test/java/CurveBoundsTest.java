import java.util.Arrays;

/** Promises 20 to 29 at the edges that the document names: rows empty and full, skipped numbers, ends of the year. */
public final class CurveBoundsTest {
    private static final long REFUSED = 1000000001L;
    private static final int[] LEAST = {-128, -32768, Integer.MIN_VALUE};

    private CurveBoundsTest() {
    }

    public static void main(String[] args) {
        curveLengths();
        curveSkips();
        curveWraps();
        curveColumns();
        nextByMost();
        nextOfNone();
        comesWithinTheYear();
        togetherWithinTheYear();
        cloudsOdds();
        cloudsTerms();
        darkOnesNights();
        darkOnesNumbers();
        darkOnesMore();
        gameTies();
        gameColumns();
        rowOfRoofsColumns();
        rowOfRoofsByNumbers();
        lawsRows();
        lawsNumbers();
        scorched();
        mean();
        Check.end();
    }

    private static int[] filled(int length, int number) {
        int[] row = new int[length];
        Arrays.fill(row, number);
        return row;
    }

    private static void curveLengths() {
        // LASTS 1, 2, 3, 4, 6, 14, all over 7
        MeteorsAreProposals x = Check.told("m70072009;m30072009;m00072009;m03072009;m09072009;m49072009;");
        int[] due = {63, 63, 62, 60, 56, 48, 48, 32, 32, 32, 32, 32, 32, 32, 32, 0, 0};
        for (int length = 0; length < due.length; length++) {
            Check.row(x, 0, Check.BYTES, filled(length, 7));
            Check.due("20: " + length + " steps", x.curve(0, 0), due[length]);
            Check.due("20: " + length + " steps, how many", x.curve(0, 1), Integer.bitCount(due[length]));
            int next = length < 14 ? 7 : -4;
            Check.due("20: " + length + " steps, next", x.curve(0, 2), next);
        }
        for (int sort = 0; sort < 3; sort++) {
            x.row(0, sort, 100);
            Check.due("20: a hundred", x.curve(0, 0), 0);
            Check.due("20: a hundred, next", x.curve(0, 2), -4);
        }
        for (int sort = 0; sort < 3; sort++) {
            Check.row(x, 0, sort);
            Check.due("20: an empty row, all", x.curve(0, 0), 63);
            Check.due("20: an empty row, how many", x.curve(0, 1), 6);
            Check.due("20: an empty row, where they begin", x.curve(0, 2), 7);
            MeteorsAreProposals none = new MeteorsAreProposals();
            Check.row(none, 0, sort);
            Check.due("20: of none", none.curve(0, 0), 0);
            Check.due("20: of none", none.curve(0, 1), 0);
            Check.due("20: of none", none.curve(0, 2), -4);
        }
    }

    private static void curveSkips() {
        for (int sort = 0; sort < 3; sort++) {
            MeteorsAreProposals x = Check.told("m00053009;m00071009;m09063009;");
            for (int place = 0; place < 3; place++) {
                int[] row = {5, 6, 7};
                row[place] = LEAST[sort];
                Check.row(x, 0, sort, row);
                Check.due("20: skipped at " + place, x.curve(0, 0), 1);
                row[(place + 1) % 3] = LEAST[sort];
                row[(place + 2) % 3] = LEAST[sort];
                Check.row(x, 0, sort, row);
                Check.due("20: all skipped", x.curve(0, 0), 7);
            }
            Check.row(x, 0, sort, LEAST[sort], 6, LEAST[sort]);
            Check.due("20: first and last skipped", x.curve(0, 0), 3);
            Check.row(x, 0, sort, LEAST[sort], LEAST[sort], LEAST[sort], LEAST[sort]);
            Check.due("20: what is skipped must be lasted", x.curve(0, 0), 4);
            Check.due("20: next behind it", x.curve(0, 2), 10);
            // one more than the least is a number as others, and so is the least of a lesser sort
            Check.row(x, 0, sort, LEAST[sort] + 1);
            Check.due("20: one above the least", x.curve(0, 0), 0);
            for (int less = 0; less < sort; less++) {
                Check.row(x, 0, sort, LEAST[less]);
                Check.due("20: the least of a lesser sort", x.curve(0, 0), 0);
            }
        }
    }

    private static void curveWraps() {
        MeteorsAreProposals x = Check.told("m00052009;");
        int[][] rows = {{0, 261}, {0, -251}, {1, 65541}, {1, -65531}};
        for (int[] row : rows) {
            Check.row(x, 0, row[0], row[1], row[1]);
            Check.due("20: 5 in its lowest bits", x.curve(0, 0), 1);
        }
        int[][] skipped = {{0, 128}, {0, 384}, {1, 32768}, {1, 98304}};
        for (int[] row : skipped) {
            Check.row(x, 0, row[0], row[1], 5);
            Check.due("20: the least in its lowest bits is skipped", x.curve(0, 0), 1);
        }
        int[][] others = {{1, 261}, {2, 261}, {2, 65541}, {1, 128}, {2, 32768}};
        for (int[] row : others) {
            Check.row(x, 0, row[0], row[1], 5);
            Check.due("20: another number in a greater sort", x.curve(0, 0), 0);
        }
    }

    private static void curveColumns() {
        MeteorsAreProposals x = Check.told("m09134009;m09020009;m09150009;m00002009;m00152009;");
        int[][] rows = {{13, 15, 15, 15, 15, 15}, {2, 0, 0, 0, 0, 0}, {15, 13, 11, 9, 7, 5}, {0, 0, 0}, {15, 15, 15}};
        int[] due = {1, 2, 4, 8, 16};
        for (int i = 0; i < rows.length; i++) {
            Check.row(x, 0, Check.SHORTS, rows[i]);
            Check.due("20: between the edges", x.curve(0, 0), due[i]);
        }
        int[][] beyond = {{13, 17}, {2, -2}, {16}, {-1}, {15, 17}};
        for (int[] row : beyond) {
            Check.row(x, 0, Check.SHORTS, row);
            Check.due("20: beyond the edges", x.curve(0, 0), 0);
        }
        Check.row(x, 0, Check.SHORTS, 13);
        Check.due("20: next at 15", x.curve(0, 2), 15);
        Check.row(x, 0, Check.SHORTS, 2);
        Check.due("20: next at 0", x.curve(0, 2), 0);
        Check.row(x, 0, Check.SHORTS, 15);
        Check.due("20: 13 and 15: the least", x.curve(0, 2), 13);
        MeteorsAreProposals eight = Check.told("m00052009;".repeat(8));
        Check.row(eight, 0, Check.BYTES, 5);
        Check.due("20: all eight", eight.curve(0, 0), 255);
        Check.due("20: eight", eight.curve(0, 1), 8);
        Check.due("20: what is above", eight.curve(0, 3), -1);
        Check.due("20: what is below", eight.curve(0, -1), -1);
    }

    private static void nextByMost() {
        // from 5 by -2, -1, 0, 1, 2 to 3, 4, 5, 6, 7
        MeteorsAreProposals x = Check.told("m09050009;m09051009;m09052009;m09053009;m09054009;");
        Check.row(x, 0, Check.BYTES, 5);
        Check.due("20: of five the least", x.curve(0, 2), 3);
        Check.text(x, 1, "m09054009;");
        Check.due("20: two go to 7", x.curve(0, 2), 7);
        Check.text(x, 1, "m09051009;");
        Check.due("20: two each to 4 and 7", x.curve(0, 2), 4);
        Check.text(x, 1, "m09054009;");
        Check.due("20: three go to 7", x.curve(0, 2), 7);
        Check.row(x, 0, Check.BYTES, 5, 5);
        Check.due("20: only those that go so tell", x.curve(0, 2), 5);
        Check.row(x, 0, Check.BYTES, 5, -128, 9);
        Check.due("20: from 5 over 9 to 11", x.curve(0, 2), 11);
    }

    private static void nextOfNone() {
        // a METEOR 0 that goes so for three steps, and two that last four
        MeteorsAreProposals x = Check.told("m00053009;");
        Check.row(x, 0, Check.BYTES, 5, 6);
        Check.due("20: its last step", x.curve(0, 2), 7);
        Check.row(x, 0, Check.BYTES, 5, 6, 7);
        Check.due("20: it goes so", x.curve(0, 1), 1);
        Check.due("20: it is over no column behind its last step", x.curve(0, 2), -4);
        Check.text(x, 1, "m00053009;m03053009;");
        Check.due("20: three", x.curve(0, 1), 3);
        Check.due("20: one of them lasts", x.curve(0, 2), 8);
        Check.row(x, 0, Check.BYTES, 4);
        Check.due("20: none goes so", x.curve(0, 2), -4);
        Check.due("20: none", x.curve(0, 1), 0);
    }

    private static void comesWithinTheYear() {
        // NIGHT 5 and 3s: 5, 8, .., 365; NIGHT 6 and 3s: 6, .., 363, 366; NIGHT 30 and 24s: .., 342, 366; each from 30
        MeteorsAreProposals x = Check.told("m00002059;m00002069;m29002309;m70002309;m00002009;");
        Check.due("21: 365 is still told", x.comes(0, 363), 365);
        Check.due("21: 365 from 365", x.comes(0, 365), 365);
        Check.due("21: 366 is not", x.comes(1, 364), -4);
        Check.due("21: 363 from 363", x.comes(1, 363), 363);
        Check.due("21: 366 is not", x.comes(2, 343), -4);
        Check.due("21: 342 from 342", x.comes(2, 342), 342);
        Check.due("21: times 0", x.comes(2, 0), 30);
        Check.due("21: times 0 from 30", x.comes(2, 30), 30);
        Check.due("21: times 1 from 31", x.comes(2, 31), 54);
        Check.due("21: not ahead of its NIGHT", x.comes(0, 0), 5);
        Check.due("21: each night", x.comes(3, 365), 365);
        Check.due("21: NIGHT 0 from 0", x.comes(4, 0), 0);
        Check.due("21: NIGHT 0 from 1", x.comes(4, 1), 3);
        Check.due("21: below 0", x.comes(4, -1), -1);
        Check.due("21: above 365", x.comes(4, 366), -1);
        Check.due("21: far above", x.comes(4, Integer.MAX_VALUE), -1);
        Check.due("21: far below", x.comes(4, Integer.MIN_VALUE), -1);
        Check.due("21: no such one", x.comes(5, 0), -1);
    }

    private static void togetherWithinTheYear() {
        MeteorsAreProposals x = Check.told("m29002179;m48002309;m00002009;m00002009;m29002309;m28002009;m70002309;");
        Check.due("22: the last night on which two can first be", x.together(0, 1), 329);
        Check.due("22: the other way", x.together(1, 0), 329);
        Check.due("22: night 0", x.together(2, 3), 0);
        Check.due("22: 30 and 24s, 0 and 22s", x.together(4, 5), 198);
        Check.due("22: never, an odd one and an even one", x.together(0, 5), -4);
        Check.due("22: each night from 30 on", x.together(6, 2), 30);
        Check.due("22: one twice", x.together(6, 6), -1);
        Check.due("22: none behind the last", x.together(6, 7), -1);
        Check.due("22: none behind the last", x.together(7, 6), -1);
        Check.due("22: below", x.together(-1, 0), -1);
        Check.due("22: below", x.together(0, -1), -1);
    }

    private static void cloudsOdds() {
        // three steps, need 3, 2, 1, 4
        MeteorsAreProposals x = Check.told("m00032009;l1033;");
        Check.due("23: the least t", x.clouds(1, 0, 2, 0), 1);
        Check.due("23: the least t", x.clouds(1, 0, 2, 1), 8);
        Check.due("23: the greatest t", x.clouds(1, 0, 20, 0), 6859);
        Check.due("23: the greatest t", x.clouds(1, 0, 20, 1), 8000);
        int[] no = {Integer.MIN_VALUE, -2, -1, 0, 1, 21, 22, Integer.MAX_VALUE};
        for (int t : no) {
            Check.due("23: t " + t, x.clouds(1, 0, t, 0), REFUSED);
            Check.due("23: t " + t, x.clouds(1, 0, t, 1), REFUSED);
        }
        x.looks(1, 3, 2);
        Check.due("23: never four of three", x.clouds(1, 0, 20, 0), 0);
        Check.due("23: never four of three", x.clouds(1, 0, 20, 1), 1);
        x.looks(1, 3, 6);
        Check.due("23: two of three, once cloudy or never", x.clouds(1, 0, 3, 0), 20);
        Check.due("23: two of three", x.clouds(1, 0, 3, 1), 27);
        x.looks(1, 3, 9);
        Check.due("23: one of three", x.clouds(1, 0, 3, 0), 26);
        x.looks(1, 6, 9);
        Check.due("23: unseen", x.clouds(1, 0, 3, 0), 0);
        Check.due("23: unseen", x.clouds(1, 0, 3, 1), 1);
        x.run(0);
        x.looks(1, 5, 9);
        Check.due("23: whatever she has said", x.clouds(1, 0, 3, 1), 27);
        Check.due("23: part above", x.clouds(1, 0, 3, 2), REFUSED);
        Check.due("23: part below", x.clouds(1, 0, 3, -1), REFUSED);
    }

    private static void cloudsTerms() {
        // one step, seen once: 1 in t is cloudy
        MeteorsAreProposals x = Check.told("m70032009;l1039;");
        for (int t = 2; t <= 20; t++) {
            Check.due("23: of one step", x.clouds(1, 0, t, 0), t - 1);
            Check.due("23: of one step", x.clouds(1, 0, t, 1), t);
        }
        // two of two: 9 by 16 with 4, 1 by 4 with 2; one of two: 3 by 4, 8 by 9, 15 by 16
        MeteorsAreProposals y = Check.told("m30032009;l1036;l0039;");
        Check.due("23: two of two", y.clouds(1, 0, 4, 0), 9);
        Check.due("23: two of two", y.clouds(1, 0, 4, 1), 16);
        Check.due("23: one of two", y.clouds(0, 0, 2, 0), 3);
        Check.due("23: one of two", y.clouds(0, 0, 2, 1), 4);
        // three of four: 4 and 1 of 16; by 3, 4 times 8 and 16 of 81
        MeteorsAreProposals z = Check.told("m03032009;l1033;l0030;");
        Check.due("23: three of four", z.clouds(1, 0, 2, 0), 5);
        Check.due("23: three of four", z.clouds(1, 0, 2, 1), 16);
        Check.due("23: three of four by 3: 48 of 81", z.clouds(1, 0, 3, 0), 16);
        Check.due("23: in least terms", z.clouds(1, 0, 3, 1), 27);
        Check.due("23: all of four by 20", z.clouds(0, 0, 20, 0), 130321);
        Check.due("23: all of four by 20", z.clouds(0, 0, 20, 1), 160000);
        // 14 steps, the most: 1 - 1 / 20 to 14
        MeteorsAreProposals w = Check.told("m49032009;l1039;");
        Check.due("23: one of fourteen", w.clouds(1, 0, 20, 0), 1638399999999999999L);
        Check.due("23: one of fourteen", w.clouds(1, 0, 20, 1), 1638400000000000000L);
        Check.due("23: one of fourteen by 2", w.clouds(1, 0, 2, 0), 16383);
        Check.due("23: one of fourteen by 2", w.clouds(1, 0, 2, 1), 16384);
    }

    private static void darkOnesNights() {
        MeteorsAreProposals x = Check.told("m00002309;m00002309;m00002299;m00002019;m70002009;");
        Check.row(x, 0, Check.BYTES, new int[31]);
        Check.due("24: 31 numbers, night 0", x.darkOnes(0, 0), 0);
        Check.due("24: 31 numbers, all", x.darkOnes(0, 1), 5);
        x.put(0, 0, 1);
        Check.due("24: night 1", x.darkOnes(0, 0), 1);
        x.put(0, 1, 1);
        Check.due("24: night 29, a KEPT one not being there by NIGHT", x.darkOnes(0, 0), 29);
        x.put(0, 29, 1);
        Check.due("24: night 30", x.darkOnes(0, 0), 30);
        Check.due("24: two there", x.darkOnes(0, 1), 2);
        x.put(0, 30, 1);
        Check.due("24: one more than told", x.darkOnes(0, 1), 1);
        x.put(0, 30, 2);
        Check.due("24: none more", x.darkOnes(0, 0), -4);
        Check.due("24: none more", x.darkOnes(0, 1), 0);
        Check.row(x, 0, Check.BYTES, filled(30, 1));
        Check.due("24: night 30 is not told", x.darkOnes(0, 0), -4);
        Check.row(x, 0, Check.BYTES, new int[30]);
        Check.due("24: night 30 is not told", x.darkOnes(0, 1), 3);
        Check.row(x, 0, Check.BYTES, new int[32]);
        Check.due("24: 32 numbers", x.darkOnes(0, 0), -13);
        Check.row(x, 0, Check.BYTES, new int[100]);
        Check.due("24: a hundred numbers", x.darkOnes(0, 1), -13);
        Check.row(x, 0, Check.BYTES);
        Check.due("24: no number", x.darkOnes(0, 0), -4);
        Check.due("24: no number", x.darkOnes(0, 1), 0);
        MeteorsAreProposals none = new MeteorsAreProposals();
        Check.row(none, 0, Check.INTS, new int[31]);
        Check.due("24: of none", none.darkOnes(0, 0), -4);
        Check.due("24: of none", none.darkOnes(0, 1), 0);
    }

    private static void darkOnesNumbers() {
        int[] bad = {-1, 100, 127, -128};
        for (int sort = 0; sort < 3; sort++) {
            MeteorsAreProposals x = Check.told("m00002009;m00002019;");
            for (int place = 0; place < 31; place += 15) {
                for (int number : bad) {
                    Check.row(x, 0, sort, new int[31]);
                    x.put(0, place, number);
                    Check.due("24: " + number + " at " + place, x.darkOnes(0, 0), -13);
                }
                x.put(0, place, LEAST[sort]);
                Check.due("24: the least number is not skipped", x.darkOnes(0, 1), -13);
                x.put(0, place, 99);
                Check.due("24: 99 is a number", x.darkOnes(0, 1), place == 0 ? 1 : 2);
                x.put(0, place, 0);
                Check.due("24: 0 is a number", x.darkOnes(0, 1), 2);
            }
        }
        MeteorsAreProposals y = Check.told("m00002009;");
        Check.row(y, 0, Check.BYTES, 256);
        Check.due("24: 0 in its lowest bits", y.darkOnes(0, 1), 1);
        Check.row(y, 0, Check.SHORTS, 256);
        Check.due("24: 256 in a greater sort", y.darkOnes(0, 1), -13);
    }

    private static void darkOnesMore() {
        MeteorsAreProposals x = Check.told("m00002079;".repeat(8));
        Check.row(x, 0, Check.BYTES, 5, 5, 5, 5, 5, 5, 5, 0);
        Check.due("24: all eight", x.darkOnes(0, 1), 8);
        Check.due("24: night 7", x.darkOnes(0, 0), 7);
        x.put(0, 7, 7);
        Check.due("24: one", x.darkOnes(0, 1), 1);
        x.put(0, 7, 8);
        Check.due("24: as many are not more", x.darkOnes(0, 0), -4);
        x.put(0, 7, 9);
        Check.due("24: fewer are not more", x.darkOnes(0, 1), 0);
        // 2 and 1 more on nights 1 and 3, 4 fewer between: the first, and three
        MeteorsAreProposals y = Check.told("m00002019;m00002019;m20002039;m50002039;");
        Check.row(y, 0, Check.BYTES, 9, 0, 4, 1);
        Check.due("24: the first", y.darkOnes(0, 0), 1);
        Check.due("24: fewer do not count", y.darkOnes(0, 1), 3);
    }

    private static void gameTies() {
        // straight down, BRIGHT 1: one roof sees one place at most
        MeteorsAreProposals x = Check.told("m10002009;m29002009;m72002009;m39002009;");
        for (int a = 0; a <= 5; a++) {
            for (int b = 0; b <= 5; b++) {
                Check.due("25: none", x.game(0, a, b, 0), 0);
                Check.due("25: of three roofs the least", x.game(0, a, b, 1), a);
                Check.due("25: a dark one", x.game(1, a, b, 0), 0);
                Check.due("25: a dark one", x.game(1, a, b, 1), a);
            }
        }
        // BRIGHT 6, one step: from 5 all of 0, 5, 10, from 10 all of 4, 9, 14, from 5 not 14
        Check.due("25: the roof in the middle", x.game(2, 0, 0, 1), 5);
        Check.due("25: the greatest roof", x.game(2, 0, 4, 1), 10);
        Check.due("25: seen from it", x.game(2, 0, 4, 0), 1);
        Check.due("25: of two the least", x.game(2, 0, 1, 1), 5);
        Check.due("25: 4 sees 0, 5, 10", x.game(2, 4, 0, 1), 4);
        Check.due("25: so does 5, not 15", x.game(2, 5, 0, 1), 5);
        Check.due("25: 9 sees 5, 10, 15", x.game(2, 4, 5, 1), 9);
        Check.due("25: five steps each", x.game(3, 5, 5, 0), 5);
        Check.due("25: no looker need be there", x.game(3, 5, 5, 1), 10);
    }

    private static void gameColumns() {
        MeteorsAreProposals x = Check.told("m69004009;m69000009;m69002009;");
        // ten steps from 5: over 13 once, then over 15 in all five that are left
        Check.due("25: to the right edge", x.game(0, 5, 5, 0), 6);
        Check.due("25: from roof 15", x.game(0, 5, 5, 1), 15);
        // to the left from 10: over 2 once, then over 0 in all five that are left
        Check.due("25: to the left edge", x.game(1, 0, 0, 0), 6);
        Check.due("25: from roof 0", x.game(1, 0, 0, 1), 0);
        Check.due("25: a above", x.game(2, 6, 0, 0), -1);
        Check.due("25: b above", x.game(2, 0, 6, 0), -1);
        Check.due("25: a below", x.game(2, -1, 0, 0), -1);
        Check.due("25: b below", x.game(2, 0, -1, 0), -1);
        Check.due("25: its own column is no matter", Check.told("m69154009;").game(0, 5, 5, 0), 6);
    }

    private static void rowOfRoofsColumns() {
        // slates over 0, 4, 5, 11, 15
        MeteorsAreProposals x = Check.told("m50002009;m50042009;m50052009;m50112009;m50152009;");
        int[] due = {2, 2, 2, 2, 2, 1, 0, 1, 1, 1, 1, 2};
        for (int c = 0; c <= 11; c++) {
            Check.due("26: from " + c, x.rowOfRoofs(c), due[c]);
        }
        Check.due("26: above", x.rowOfRoofs(12), -1);
        Check.due("26: below", x.rowOfRoofs(-1), -1);
        Check.due("26: roofs stay", x.count(4), 30);
        for (int c = 0; c <= 11; c++) {
            Check.due("26: of none", new MeteorsAreProposals().rowOfRoofs(c), 0);
        }
        MeteorsAreProposals eight = Check.told("m50132009;".repeat(8));
        Check.due("26: all eight, by one", eight.rowOfRoofs(11), 8);
        Check.due("26: from 8 none", eight.rowOfRoofs(8), 0);
        Check.due("26: from 9 all", eight.rowOfRoofs(9), 8);
        eight.looks(2, 13, 5);
        Check.due("26: one says yes", eight.run(0), 1);
        Check.due("26: whatever they have said", eight.rowOfRoofs(11), 8);
        eight.looks(4, 13, 5);
        Check.due("26: another one, too", eight.run(0), 1);
        Check.due("26: whatever they have said", eight.rowOfRoofs(9), 8);
        MeteorsAreProposals edge = Check.told("m59134009;m59020009;");
        Check.due("26: one stays at 15", edge.rowOfRoofs(11), 1);
        Check.due("26: one stays at 0", edge.rowOfRoofs(0), 1);
        Check.due("26: none in the middle", edge.rowOfRoofs(4), 0);
    }

    private static void rowOfRoofsByNumbers() {
        // only one of them is quick enough for three steps: she stands c and her number columns on
        for (int quick = 0; quick < 5; quick++) {
            MeteorsAreProposals x = Check.told("m50072009;");
            for (int l = 0; l < 5; l++) {
                x.looks(l, 0, l == quick ? 3 : 2);
            }
            for (int c = 0; c <= 11; c++) {
                Check.due("26: looker " + quick + " from " + c, x.rowOfRoofs(c), c + quick == 7 ? 1 : 0);
            }
        }
    }

    private static void lawsRows() {
        MeteorsAreProposals x = new MeteorsAreProposals();
        for (int sort = 0; sort < 3; sort++) {
            for (int figure = 0; figure < 10; figure++) {
                Check.row(x, 0, sort);
                Check.due("27: of an empty row all kinds", x.laws(0, figure, 0), 255);
                Check.due("27: of an empty row eight", x.laws(0, figure, 1), 8);
            }
        }
        // fifty pairs of METEOR 0: METEOR and TWIN
        int[] pairs = new int[100];
        for (int i = 0; i < 100; i++) {
            pairs[i] = i % 2 == 0 ? 3 : 2;
        }
        Check.row(x, 0, Check.BYTES, pairs);
        Check.due("27: fifty pairs", x.laws(0, 0, 0), 0b1000001);
        x.put(0, 99, 1);
        Check.due("27: the last number is another one", x.laws(0, 0, 0), 0);
        x.put(0, 99, 2);
        x.put(0, 98, 4);
        Check.due("27: the last but one is another one", x.laws(0, 0, 1), 0);
        Check.row(x, 1, Check.BYTES, 3);
        Check.due("27: one number", x.laws(1, 0, 0), -13);
        Check.row(x, 1, Check.BYTES, 3, 2, 3);
        Check.due("27: three numbers", x.laws(1, 0, 1), -13);
        x.row(1, Check.BYTES, 99);
        Check.due("27: 99 numbers", x.laws(1, 0, 0), -13);
    }

    private static void lawsNumbers() {
        MeteorsAreProposals x = new MeteorsAreProposals();
        // cut: figure 2 as 0, 3 not
        Check.row(x, 0, Check.BYTES, 3, 2);
        int[] due = {0b1000001, 0b1000001, 1, 0, 0, 0, 0, 0, 0, 0};
        for (int figure = 0; figure < 10; figure++) {
            Check.due("27: 3 and 2 of figure " + figure, x.laws(0, figure, 0), due[figure]);
        }
        for (int sort = 0; sort < 3; sort++) {
            Check.row(x, 0, sort, 3, -1);
            Check.due("27: a DARK one", x.laws(0, 0, 0), 0b100);
            Check.row(x, 0, sort, LEAST[sort], 2);
            Check.due("27: the least is not skipped", x.laws(0, 0, 0), 0);
            Check.row(x, 0, sort, 3, LEAST[sort]);
            Check.due("27: the least is not skipped", x.laws(0, 0, 1), 0);
        }
        Check.row(x, 0, Check.BYTES, 259, 258);
        Check.due("27: 3 and 2 in their lowest bits", x.laws(0, 0, 0), 0b1000001);
        Check.row(x, 0, Check.SHORTS, 259, 258);
        Check.due("27: not in a greater sort", x.laws(0, 0, 0), 0);
        Check.row(x, 0, Check.INTS, 1, 4);
        Check.due("27: the last kind", x.laws(0, 1, 0), 0b10000000);
        Check.due("27: a figure above", x.laws(0, 10, 0), -1);
        Check.due("27: a figure below", x.laws(0, -1, 0), -1);
        Check.row(x, 0, Check.INTS, 6, 1, 6, 1);
        Check.due("27: SLOW ones alone", x.laws(0, 0, 0), 0b10);
        Check.row(x, 0, Check.INTS, 6, 1, 8, 1);
        Check.due("27: SLOW and LONG ones are not of one kind", x.laws(0, 0, 0), 0);
    }

    private static void scorched() {
        // HEAT 18, 6 and 0: BALL 9, METEOR 6, SLATE 9
        MeteorsAreProposals x = Check.told("m39002009;m06122009;m59032009;r00;");
        for (int quick = 0; quick < 10; quick++) {
            for (int l = 0; l < 5; l++) {
                x.looks(l, 0, quick);
            }
            Check.due("28: 18 less " + quick, x.scorched(0), 18 - quick);
            Check.due("28: 6 less " + quick + ", 0 at least", x.scorched(4), quick < 6 ? 6 - quick : 0);
            Check.due("28: 0 less " + quick + ", 0 at least", x.scorched(1), 0);
            Check.due("28: of none 0", x.scorched(2), 0);
            Check.due("28: of none 0", x.scorched(3), 0);
        }
        x.looks(0, 0, 0);
        Check.due("28: the most", x.scorched(0), 18);
        x.free(0);
        Check.due("28: none any more", x.scorched(0), 0);
        Check.due("28: above", x.scorched(5), -1);
        Check.due("28: below", x.scorched(-1), -1);
        Check.due("28: of none", new MeteorsAreProposals().scorched(4), 0);
        Check.due("28: the last of eight", Check.told("m20002009;".repeat(7) + "m09122009;r00;").scorched(4), 4);
    }

    private static void meanOf(String text, long above, long below) {
        MeteorsAreProposals x = Check.told(text);
        Check.due("29: above of " + text, x.mean(0), above);
        Check.due("29: below of " + text, x.mean(1), below);
    }

    private static void mean() {
        MeteorsAreProposals none = new MeteorsAreProposals();
        Check.due("29: 0 by 1 of none", none.mean(0), 0);
        Check.due("29: 0 by 1 of none", none.mean(1), 1);
        Check.due("29: part above", none.mean(2), REFUSED);
        Check.due("29: part below", none.mean(-1), REFUSED);
        Check.due("29: part far above", none.mean(Integer.MAX_VALUE), REFUSED);
        Check.due("29: part far below", none.mean(Integer.MIN_VALUE), REFUSED);
        meanOf("m00002009;", 0, 1);
        meanOf("m59002009;m42002009;m00002009;", 0, 1);
        meanOf("m01002009;", 1, 1);
        meanOf("m01002009;m00002009;", 1, 2);
        meanOf("m02002009;m00002009;m00002009;m00002009;", 1, 2);
        meanOf("m06002009;m00002009;m00002009;m00002009;", 3, 2);
        meanOf("m39002009;".repeat(8), 18, 1);
        meanOf("m39002009;".repeat(7) + "m01002009;", 127, 8);
        meanOf("m01002009;" + "m00002009;".repeat(7), 1, 8);
    }
}
