/** Promises 20 to 29: curves, comings, clouds, dark ones, the game, a row of roofs, laws, heat. */
public final class CurvesAndNightsTest {
    private static final long REFUSED = 1000000001L;

    private CurvesAndNightsTest() {
    }

    public static void main(String[] args) {
        curve();
        curveNext();
        comes();
        together();
        clouds();
        darkOnes();
        game();
        rowOfRoofs();
        laws();
        scorched();
        mean();
        rowsRefused();
        Check.end();
    }

    private static void curve() {
        // METEOR 0: 5 6 7; METEOR 9: 5 6 7 8 9 10; BALL 0: 5 6; METEOR 0: 7 6 5
        MeteorsAreProposals x = Check.told("m00053009;m09053009;m30053009;m00071009;");
        Check.row(x, 0, Check.BYTES, 5, 6);
        Check.due("20: three", x.curve(0, 0), 0b111);
        Check.due("20: how many", x.curve(0, 1), 3);
        Check.row(x, 0, Check.BYTES, 5, 6, 7);
        Check.due("20: the ball does not last", x.curve(0, 0), 0b11);
        Check.row(x, 0, Check.BYTES, -128, 6);
        Check.due("20: the first is skipped", x.curve(0, 0), 0b1111);
        Check.row(x, 0, Check.BYTES, -128, 6, -128);
        Check.due("20: a skipped one must last, too", x.curve(0, 0), 0b1011);
        Check.row(x, 0, Check.SHORTS, -32768, 6);
        Check.due("20: shorts", x.curve(0, 1), 4);
        Check.row(x, 0, Check.SHORTS, -128, 6);
        Check.due("20: -128 is a number of shorts", x.curve(0, 0), 0);
        Check.row(x, 0, Check.INTS, Integer.MIN_VALUE, 6);
        Check.due("20: ints", x.curve(0, 1), 4);
        Check.row(x, 0, Check.INTS, -32768, 6);
        Check.due("20: -32768 is a number of ints", x.curve(0, 1), 0);
        Check.row(x, 0, Check.INTS);
        Check.due("20: an empty row fits all", x.curve(0, 0), 0b1111);
        MeteorsAreProposals edge = Check.told("m09134009;m09020009;");
        Check.row(edge, 0, Check.BYTES, 13, 15, 15);
        Check.due("20: the upper edge", edge.curve(0, 0), 1);
        Check.row(edge, 0, Check.BYTES, 2, 0, 0, 0, 0, 0);
        Check.due("20: the lower edge", edge.curve(0, 0), 2);
        Check.due("20: what", x.curve(0, 3), -1);
        Check.due("20: what", x.curve(0, -1), -1);
    }

    private static void curveNext() {
        MeteorsAreProposals x = Check.told("m09053009;m09053009;m09051009;m30053009;");
        Check.row(x, 0, Check.BYTES, 5);
        Check.due("20: most go to 6", x.curve(0, 2), 6);
        x.meant(0, 1);
        Check.row(x, 0, Check.BYTES);
        Check.due("20: behind an empty row they begin", x.curve(0, 2), 5);
        Check.row(x, 0, Check.BYTES, 5, 6);
        Check.due("20: the ball tells nothing more", x.curve(0, 2), 7);
        Check.row(x, 0, Check.BYTES, 9);
        Check.due("20: none goes so", x.curve(0, 2), -4);
        MeteorsAreProposals y = Check.told("m00053009;m00051009;");
        Check.row(y, 0, Check.BYTES, 5);
        Check.due("20: of several the least", y.curve(0, 2), 4);
        Check.row(y, 0, Check.BYTES, 5, 6, 7);
        Check.due("20: it goes so", y.curve(0, 0), 1);
        Check.due("20: but lasts no longer", y.curve(0, 2), -4);
        MeteorsAreProposals edges = Check.told("m00011009;m00153009;");
        Check.row(edges, 0, Check.BYTES, 1);
        Check.due("20: the first meteor, to column 0", edges.curve(0, 2), 0);
        Check.row(edges, 0, Check.BYTES, 15, 15);
        Check.due("20: no column above 15", edges.curve(0, 0), 2);
        Check.due("20: no column above 15", edges.curve(0, 2), 15);
    }

    private static void comes() {
        MeteorsAreProposals x = Check.told("m00002059;m70002309;m29002009;m69002019;");
        Check.due("21: its first night", x.comes(0, 0), 5);
        Check.due("21: that very night", x.comes(0, 5), 5);
        Check.due("21: back", x.comes(0, 6), 8);
        Check.due("21: back", x.comes(0, 9), 11);
        Check.due("21: the last", x.comes(0, 363), 365);
        Check.due("21: 365", x.comes(0, 365), 365);
        Check.due("21: each night", x.comes(1, 364), 364);
        Check.due("21: not ahead of its night", x.comes(1, 3), 30);
        Check.due("21: none", x.comes(2, 361), -4);
        Check.due("21: by 24", x.comes(2, 360), 360);
        Check.due("21: a twin by 7", x.comes(3, 2), 8);
        Check.due("21: v", x.comes(0, 366), -1);
        Check.due("21: v", x.comes(0, -1), -1);
        Check.due("21: m", x.comes(4, 0), -1);
    }

    private static void together() {
        // 5 and 3s, 30 and 1s, 0 and 24s, 1 and 24s, 0 and 12s (from 25)
        MeteorsAreProposals x = Check.told("m00002059;m70002309;m29002009;m29002019;m09002259;");
        Check.due("22: 32", x.together(0, 1), 32);
        Check.due("22: 32 the other way", x.together(1, 0), 32);
        Check.due("22: never", x.together(2, 3), -4);
        Check.due("22: 25", x.together(3, 4), 25);
        Check.due("22: in the first night", Check.told("m00002009;m09002009;").together(0, 1), 0);
        Check.due("22: one twice", x.together(1, 1), -1);
        Check.due("22: no such one", x.together(0, 5), -1);
        Check.due("22: no such one", x.together(-1, 0), -1);
        MeteorsAreProposals late = Check.told("m00002009;m09002019;m29002009;m28002219;");
        Check.due("22: 3 a = 1 and 12 b: never", late.together(0, 1), -4);
        Check.due("22: 24 a = 21 and 22 b: never", late.together(2, 3), -4);
        Check.due("22: 3 a = 21 and 22 b", late.together(0, 3), 21);
        MeteorsAreProposals later = Check.told("m26002009;m18002179;");
        Check.due("22: 18 a = 17 and 13 b", later.together(0, 1), 108);
    }

    private static void fraction(String name, MeteorsAreProposals x, int l, int m, int t, long above, long below) {
        Check.due("23: above " + name, x.clouds(l, m, t, 0), above);
        Check.due("23: below " + name, x.clouds(l, m, t, 1), below);
    }

    private static void clouds() {
        MeteorsAreProposals x = Check.told("m00032009;m29032009;m49032009;m33032009;");
        fraction("all of three", x, 1, 0, 2, 1, 8);
        fraction("all of three", x, 1, 0, 3, 8, 27);
        fraction("never", x, 0, 0, 5, 0, 1);
        fraction("a dark one", x, 1, 1, 5, 0, 1);
        x.looks(1, 3, 8);
        fraction("two of three", x, 1, 0, 2, 1, 2);
        x.looks(1, 3, 9);
        fraction("one of three", x, 1, 0, 4, 63, 64);
        x.looks(1, 3, 0);
        // 14 steps: 1 less what is missed with 0 .. 3 clear ones of 14 in 2 to 14: 1 + 14 + 91 + 364 = 470
        fraction("four of fourteen", x, 1, 2, 2, (16384 - 470) / 2, 8192);
        // 20 to 14: all missed by 1 + 14 * 19 + 91 * 361 + 364 * 6859
        long missed = 1 + 14 * 19 + 91 * 361 + 364 * 6859;
        long below = 1638400000000000000L;
        long above = below - missed;
        Check.that("23: both have just one factor", above % 2 == 0 && above % 4 != 0 && above % 5 != 0);
        fraction("four of fourteen by 20", x, 1, 2, 20, above / 2, below / 2);
        Check.due("23: t", x.clouds(0, 0, 1, 0), REFUSED);
        Check.due("23: t", x.clouds(0, 0, 21, 0), REFUSED);
        Check.due("23: part", x.clouds(0, 0, 2, 2), REFUSED);
        Check.due("23: part", x.clouds(0, 0, 2, -1), REFUSED);
        Check.due("23: looker", x.clouds(5, 0, 2, 0), REFUSED);
        Check.due("23: meteor", x.clouds(0, 4, 2, 0), REFUSED);
    }

    private static void darkOnes() {
        MeteorsAreProposals x = Check.told("m00002019;m00002019;m20002039;m00002309;");
        Check.row(x, 0, Check.BYTES, 0, 2, 0);
        Check.due("24: none more", x.darkOnes(0, 0), -4);
        Check.due("24: none more", x.darkOnes(0, 1), 0);
        Check.row(x, 0, Check.BYTES, 5, 1, 0, 0);
        Check.due("24: night 1", x.darkOnes(0, 0), 1);
        Check.due("24: fewer do not count", x.darkOnes(0, 1), 2);
        Check.row(x, 0, Check.INTS, 99, 99, 99, 0);
        Check.due("24: night 3", x.darkOnes(0, 0), 3);
        Check.row(x, 0, Check.INTS, new int[31]);
        Check.due("24: all of August", x.darkOnes(0, 1), 4);
        Check.row(x, 0, Check.INTS, new int[32]);
        Check.due("24: too many", x.darkOnes(0, 1), -13);
        Check.row(x, 0, Check.INTS, 100, 0);
        Check.due("24: the first is too great", x.darkOnes(0, 0), -13);
        MeteorsAreProposals y = Check.told("m00002009;");
        Check.row(y, 0, Check.INTS, 0);
        Check.due("24: night 0", y.darkOnes(0, 0), 0);
        Check.row(x, 0, Check.INTS, 0, 100);
        Check.due("24: too great", x.darkOnes(0, 0), -13);
        Check.row(x, 0, Check.BYTES, 0, -128);
        Check.due("24: the least is not skipped", x.darkOnes(0, 0), -13);
        Check.row(x, 0, Check.BYTES);
        Check.due("24: empty", x.darkOnes(0, 0), -4);
        Check.due("24: what", x.darkOnes(0, 2), -1);
        Check.due("24: what", x.darkOnes(0, -1), -1);
    }

    private static void game() {
        // BALL 9 is seen 6 columns off, for 5 steps, straight down
        MeteorsAreProposals x = Check.told("m39002009;m00002009;m49154009;");
        Check.due("25: from 5 all of 0, 5, 10", x.game(0, 0, 0, 0), 5);
        Check.due("25: the roof", x.game(0, 0, 0, 1), 5);
        Check.due("25: from 10 alone 5, 10, 15", x.game(0, 0, 5, 1), 10);
        Check.due("25: too dim for one roof", x.game(1, 0, 0, 0), 0);
        Check.due("25: of several the least", x.game(1, 3, 0, 1), 3);
        // by 2 each step from b: in the end over 15 from wherever, where roof 15 sees it
        Check.due("25: a long one from 0, over 14 in step 7", x.game(2, 5, 0, 0), 7);
        Check.due("25: roof 15", x.game(2, 5, 0, 1), 15);
        Check.due("25: a", x.game(0, 6, 0, 0), -1);
        Check.due("25: a", x.game(0, -1, 0, 0), -1);
        Check.due("25: b", x.game(0, 0, 6, 0), -1);
        Check.due("25: b", x.game(0, 0, -1, 0), -1);
        Check.due("25: what", x.game(0, 0, 0, 2), -1);
        Check.due("25: meteor", x.game(3, 0, 0, 0), -1);
        Check.due("25: nothing changed", x.looker(0, 0), 0);
    }

    private static void rowOfRoofs() {
        // seen three times from 0 to 2, 5 to 9, 13 to 15; the last from its column alone
        MeteorsAreProposals x = Check.told("m00002009;m00072009;m00152009;m50112009;r00;");
        Check.due("26: 0 to 4", x.rowOfRoofs(0), 1);
        Check.due("26: 1 to 5", x.rowOfRoofs(1), 2);
        Check.due("26: 7 to 11", x.rowOfRoofs(7), 2);
        Check.due("26: 9 to 13", x.rowOfRoofs(9), 3);
        Check.due("26: 11 to 15", x.rowOfRoofs(11), 2);
        x.looks(0, 0, 2);
        Check.due("26: quick as they are, by numbers", x.rowOfRoofs(11), 1);
        Check.due("26: roofs stay", x.looker(0, 0), 0);
        Check.due("26: c", x.rowOfRoofs(12), -1);
        Check.due("26: c", x.rowOfRoofs(-1), -1);
    }

    private static void laws() {
        MeteorsAreProposals x = new MeteorsAreProposals();
        Check.row(x, 0, Check.BYTES, 3, 2);
        Check.due("27: METEOR and TWIN", x.laws(0, 0, 0), 1 | 1 << 6);
        Check.due("27: two", x.laws(0, 0, 1), 2);
        Check.due("27: BALL is brighter and TWIN longer with 3", x.laws(0, 3, 0), 0);
        Check.row(x, 0, Check.BYTES, 3, 3);
        Check.due("27: BALL", x.laws(0, 3, 0), 1 << 3);
        Check.row(x, 0, Check.BYTES, 5, -1, 5, -1);
        Check.due("27: DARK", x.laws(0, 7, 0), 1 << 2);
        Check.row(x, 0, Check.BYTES, 5, -1, 5, 0);
        Check.due("27: all must be", x.laws(0, 7, 1), 0);
        Check.row(x, 0, Check.BYTES, 1, 12);
        Check.due("27: KEPT", x.laws(0, 9, 0), 1 << 7);
        Check.row(x, 0, Check.BYTES, 12, 1);
        Check.due("27: SLOW", x.laws(0, 9, 0), 1 << 1);
        Check.row(x, 0, Check.BYTES, 14, 1);
        Check.due("27: LONG", x.laws(0, 9, 0), 1 << 4);
        Check.row(x, 0, Check.BYTES, 6, 0);
        Check.due("27: SLATE", x.laws(0, 9, 0), 1 << 5);
        Check.row(x, 0, Check.BYTES);
        Check.due("27: of an empty row", x.laws(0, 4, 0), 255);
        Check.due("27: all", x.laws(0, 4, 1), 8);
        Check.row(x, 0, Check.BYTES, 6);
        Check.due("27: unwhole", x.laws(0, 4, 0), -13);
        Check.due("27: f", x.laws(0, 10, 0), -1);
        Check.due("27: f", x.laws(0, -1, 0), -1);
        Check.due("27: what", x.laws(0, 0, 2), -1);
        Check.due("27: what", x.laws(0, 0, -1), -1);
    }

    private static void scorched() {
        MeteorsAreProposals x = Check.told("m39032009;m03122009;r00;");
        Check.due("28: 18 less 5", x.scorched(0), 13);
        Check.due("28: 0 at least", x.scorched(4), 0);
        Check.due("28: none", x.scorched(2), 0);
        x.looks(0, 15, 9);
        Check.due("28: 18 less 9", x.scorched(0), 9);
        Check.due("28: looker", x.scorched(5), -1);
        Check.due("28: looker", x.scorched(-1), -1);
    }

    private static void mean() {
        MeteorsAreProposals x = new MeteorsAreProposals();
        Check.due("29: of none", x.mean(0), 0);
        Check.due("29: of none", x.mean(1), 1);
        Check.due("29: 7 by 1", Check.told("m07002009;").mean(0), 7);
        Check.text(x, 0, "m50002009;m50002009;");
        Check.due("29: 0 by 2", x.mean(0), 0);
        Check.due("29: 0 by 2", x.mean(1), 1);
        Check.text(x, 0, "m04002009;m32002009;m02002009;m40002009;");
        Check.due("29: 10 by 6", x.mean(0), 5);
        Check.due("29: 10 by 6", x.mean(1), 3);
        Check.due("29: part", x.mean(2), REFUSED);
        Check.due("29: part", x.mean(-1), REFUSED);
    }

    private static void rowsRefused() {
        MeteorsAreProposals x = new MeteorsAreProposals();
        x.keep(1, 1, 0, 0);
        int[] shelves = {-1, 8, 0, 1};
        int[] due = {-1, -1, -11, -12};
        for (int i = 0; i < shelves.length; i++) {
            Check.due("20: shelf", x.curve(shelves[i], 0), due[i]);
            Check.due("24: shelf", x.darkOnes(shelves[i], 0), due[i]);
            Check.due("27: shelf", x.laws(shelves[i], 0, 0), due[i]);
            Check.due("20: -1 first", x.curve(shelves[i], 3), -1);
            Check.due("24: -1 first", x.darkOnes(shelves[i], 2), -1);
            Check.due("27: -1 first", x.laws(shelves[i], 10, 0), -1);
        }
    }
}
