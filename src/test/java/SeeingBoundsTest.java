/** Promises 10 to 19 at the edges that the document names: first and last steps, ties, none, all, cuts. */
public final class SeeingBoundsTest {
    private static final String ALL_FAR = "l0153;l1153;l2153;l3153;l4153;";

    private SeeingBoundsTest() {
    }

    public static void main(String[] args) {
        seenSteps();
        seenAtTheEdges();
        yesInTime();
        takerOrders();
        takerWhateverTheyHaveSaid();
        unseen();
        mistakes();
        waiting();
        augustNights();
        augustOrders();
        augustIsOnlySupposed();
        bestRoofTies();
        bestRoofOfNoneAndAll();
        roofsWanted();
        roofsFewest();
        roofsOfSeveral();
        wedByHeat();
        wedByWhomTheyAreFor();
        wedOnlyThose();
        wedAll();
        ringsOfNone();
        ringsAll();
        ringsFewestChanges();
        Check.end();
    }

    /** A LONG one of figure 9 lasts 14 steps, the most that there are; a KEPT one lasts one. */
    private static void seenSteps() {
        MeteorsAreProposals x = Check.told("m49032009;m70032009;m30032009;m00032009;");
        Check.due("10: all of 14 steps", x.seen(1, 0, 0), 0x3fff);
        Check.due("10: the only step", x.seen(1, 1, 0), 1);
        Check.due("10: both steps", x.seen(1, 2, 0), 0b11);
        Check.due("10: all of three", x.seen(1, 3, 0), 0b111);
        // from 15 down by 1 over 15 .. 2 in 14 steps: roof 1 sees the last one, roof 15 the first two
        MeteorsAreProposals y = Check.told("m49151009;");
        y.looks(0, 1, 9);
        y.looks(4, 15, 6);
        Check.due("10: the last step alone", y.seen(0, 0, 0), 1 << 13);
        Check.due("10: yes in the last step", y.seen(0, 0, 1), 13);
        Check.due("10: the first two", y.seen(4, 0, 0), 0b11);
        Check.due("10: yes in the second", y.seen(4, 0, 1), 1);
        y.looks(0, 0, 9);
        Check.due("10: one column more is too far", y.seen(0, 0, 0), 0);
        Check.due("10: no yes", y.seen(0, 0, 1), -4);
        Check.due("10: looker 4, the last", y.seen(4, 0, 0), 3);
        Check.due("10: no looker 5", y.seen(5, 0, 0), -1);
    }

    private static void seenAtTheEdges() {
        // by 2 to the right: 13 15 15 15 15 15; to the left: 2 0 0 0 0 0
        MeteorsAreProposals x = Check.told("m59134009;m59020009;m29134009;");
        x.looks(0, 15, 9);
        x.looks(1, 0, 9);
        Check.due("10: at most 15", x.seen(0, 0, 0), 0b111110);
        Check.due("10: at least 0", x.seen(1, 1, 0), 0b111110);
        Check.due("10: a dark one never", x.seen(0, 2, 0), 0);
        // 14 16 and 1 -1 would be passed without the edges
        MeteorsAreProposals y = Check.told("m59144009;m59010009;");
        y.looks(0, 15, 9);
        y.looks(1, 0, 9);
        Check.due("10: 15 from an odd column", y.seen(0, 0, 0), 0b111110);
        Check.due("10: 0 from an odd column", y.seen(1, 1, 0), 0b111110);
        // BRIGHT columns to each side, and one more
        int[][] kinds = {{0, 0, 2}, {1, 0, 1}, {3, 0, 2}, {3, 1, 2}, {3, 2, 3}, {3, 9, 6}, {4, 0, 1}, {5, 0, 0},
            {6, 0, 2}, {7, 0, 4}, {7, 1, 4}, {7, 2, 6}};
        for (int[] kind : kinds) {
            MeteorsAreProposals z = Check.told("m" + kind[0] + kind[1] + "072009;");
            for (int side = -1; side <= 1; side += 2) {
                z.looks(2, 7 + side * kind[2], 5);
                Check.that("10: BRIGHT " + kind[2], z.seen(2, 0, 0) != 0);
                z.looks(2, 7 + side * (kind[2] + 1), 5);
                Check.due("10: one more than BRIGHT " + kind[2], z.seen(2, 0, 0), 0);
            }
        }
    }

    /** Seen just as often as NEED, and once less. */
    private static void yesInTime() {
        // LASTS 1, 2, 3, 4 by kind and figure
        String[] ones = {"m70032009;", "m30032009;", "m00032009;", "m03032009;"};
        for (int lasts = 1; lasts <= 4; lasts++) {
            MeteorsAreProposals x = Check.told(ones[lasts - 1]);
            for (int quick = 0; quick < 10; quick++) {
                x.looks(1, 3, quick);
                int need = Told.NEED[quick];
                Check.due("10: " + lasts + " steps, need " + need, x.seen(1, 0, 1), need <= lasts ? need - 1 : -4);
            }
        }
        // seen in steps 3, 4, 5 only: the NEED-th time counts, not the steps
        MeteorsAreProposals y = Check.told("m09094009;l4150;");
        Check.due("10: from step 2 on", y.seen(4, 0, 0), 0b111100);
        Check.due("10: the fourth time", y.seen(4, 0, 1), 5);
        y.looks(4, 15, 9);
        Check.due("10: the first time", y.seen(4, 0, 1), 2);
    }

    private static void takerOrders() {
        // all say yes in step 2
        MeteorsAreProposals x = Check.told("l0085;l1085;l2085;l3085;l4085;m00082009;");
        for (int l = 0; l < 5; l++) {
            Check.due("11: of several the least", x.taker(0), l);
            x.looks(l, 0, 5);
        }
        Check.due("11: nobody", x.taker(0), -4);
        // the greatest number, but the least step
        MeteorsAreProposals y = Check.told("l0085;l1084;l2083;l3085;l4086;m00082009;");
        Check.due("11: the quickest is the last", y.taker(0), 4);
        y.looks(4, 8, 5);
        Check.due("11: as quick as all", y.taker(0), 0);
        y.looks(0, 8, 2);
        Check.due("11: too slow for three steps", y.taker(0), 1);
        MeteorsAreProposals z = Check.told("m00152009;l4152;");
        Check.due("11: seen, but nobody says yes", z.taker(0), -4);
        Check.due("11: yet it is seen", z.unseen(), 0);
        z.looks(4, 15, 3);
        Check.due("11: just in time", z.taker(0), 4);
        Check.due("11: yes in step 0 is taken", Check.told("m00002009;l0009;").taker(0), 0);
        Check.due("11: a dark one is taken by nobody", Check.told("m29002009;l0009;").taker(0), -4);
        MeteorsAreProposals edges = Check.told("m09154009;m09000009;l4139;l0029;");
        Check.due("11: at 15 in all steps", edges.taker(0), 4);
        Check.due("11: at 0 in all steps", edges.taker(1), 0);
        edges.looks(4, 12, 9);
        Check.due("11: one column too far", edges.taker(0), -4);
    }

    private static void takerWhateverTheyHaveSaid() {
        MeteorsAreProposals x = Check.told("m00032009;m00032019;r00;r01;");
        Check.due("11: hers", x.taker(0), 1);
        Check.due("11: she has another one", x.taker(1), 1);
        Check.due("11: told of the last of eight", Check.told("m20002009;".repeat(7) + "m00122009;").taker(7), 4);
    }

    private static void unseen() {
        MeteorsAreProposals x = Check.told(
            "m20002009;m20032009;m20062009;m20092009;m20122009;m20002009;m20032009;m20062009;");
        Check.due("12: all eight", x.unseen(), 255);
        MeteorsAreProposals y = Check.told(
            "m00002009;m00032009;m00062009;m00092009;m00122009;m00152009;m00002009;m00032009;");
        Check.due("12: one is three columns from all", y.unseen(), 1 << 5);
        y.looks(4, 13, 0);
        Check.due("12: none", y.unseen(), 0);
        // seen in one step only, by one looker only, who never says yes
        MeteorsAreProposals z = Check.told("l0000;l1000;l2000;l3000;l4000;m50022009;m51021009;m50021309;");
        Check.due("12: the first alone", z.unseen(), 1);
        z.looks(4, 2, 0);
        Check.due("12: the first is seen in all steps", z.unseen(), 0);
        MeteorsAreProposals edge = Check.told(ALL_FAR + "m59134009;m59020009;");
        Check.due("12: one comes to stay at 15", edge.unseen(), 0b10);
        edge.looks(0, 0, 5);
        Check.due("12: the other one at 0", edge.unseen(), 0);
        edge.looks(0, 1, 5);
        Check.due("12: not over 1", edge.unseen(), 0b10);
        Check.due("12: the last of eight", Check.told("m50002009;".repeat(7) + "m50012009;").unseen(), 128);
        Check.due("12: of none", new MeteorsAreProposals().unseen(), 0);
    }

    private static void mistakes() {
        MeteorsAreProposals x = Check.told("m00002000;m00032001;m00062002;m00092003;m00122004;m00002000;r00;");
        Check.due("13: each has hers", x.mistakes(), 0);
        int bits = 0;
        for (int l = 0; l < 5; l++) {
            x.meant(l, (l + 1) % 5);
            bits |= 1 << l;
            Check.due("13: for another one", x.mistakes(), bits);
        }
        for (int l = 0; l < 5; l++) {
            x.meant(l, 9);
            Check.due("13: for nobody", x.mistakes(), 31);
        }
        x.meant(4, 4);
        Check.due("13: the last is right again", x.mistakes(), 15);
        x.meant(5, 9);
        Check.due("13: what nobody has is none", x.mistakes(), 15);
        x.free(0);
        Check.due("13: no more", x.mistakes(), 14);
        Check.due("13: of none", new MeteorsAreProposals().mistakes(), 0);
        Check.due("13: the last of eight", Check.told("m20002009;".repeat(7) + "m00122003;r00;").mistakes(), 128);
    }

    private static void waiting() {
        MeteorsAreProposals x = Check.told("m00002009;m00032019;m00062029;m00092039;m00122049;");
        for (int l = 0; l < 5; l++) {
            Check.due("14: those from " + l + " on", x.waiting(), 31 & -1 << l);
            x.run(l);
        }
        Check.due("14: nobody", x.waiting(), 0);
        for (int l = 0; l < 5; l++) {
            x.free(l);
            Check.due("14: those up to " + l, x.waiting(), (1 << l + 1) - 1);
        }
        Check.due("14: all without meteors", new MeteorsAreProposals().waiting(), 31);
    }

    private static void augustNights() {
        for (int night = 0; night <= 30; night++) {
            MeteorsAreProposals x = new MeteorsAreProposals();
            Check.fall(x, 0, 0, 0, 2, night);
            Check.due("15: night " + night, x.august(0), 1);
            Check.due("15: a mistake in night " + night, x.august(1), 1);
            x.meant(0, 0);
            Check.due("15: no mistake", x.august(1), 0);
        }
        Check.due("15: of none", new MeteorsAreProposals().august(0), 0);
        Check.due("15: of none", new MeteorsAreProposals().august(1), 0);
        MeteorsAreProposals eight = Check.told(
            "m00002009;m00002019;m00002029;m00002039;m00002049;m00002059;m00002069;m00002309;");
        Check.due("15: only 0 is near", eight.august(0), 1);
        for (int l = 1; l < 5; l++) {
            eight.looks(l, 2, 5);
        }
        Check.due("15: five lookers, five yeses", eight.august(0), 5);
        Check.due("15: five mistakes", eight.august(1), 5);
    }

    /** Nights go by their numbers, in each the meteors by theirs: who is left takes what is left. */
    private static void augustOrders() {
        // 1 alone is near: she takes that of the least night, of one night the least number
        MeteorsAreProposals x = Check.told("m00032091;m00032052;m00032051;m00032301;");
        Check.due("15: one", x.august(0), 1);
        Check.due("15: that of night 5 first told is for 2", x.august(1), 1);
        x.meant(1, 1);
        Check.due("15: now it is for her", x.august(1), 0);
        // those already said count, and stay
        x.run(30);
        Check.due("15: the one of night 30 stays", x.august(0), 1);
        Check.due("15: it is for her", x.august(1), 0);
        x.meant(3, 4);
        Check.due("15: it is not", x.august(1), 1);
        // two near: the quicker takes the first, the other one the second; both are for the slower
        MeteorsAreProposals y = Check.told("l0033;l1039;m00032010;m00032030;m00032040;");
        Check.due("15: two", y.august(0), 2);
        Check.due("15: one mistake", y.august(1), 1);
        MeteorsAreProposals z = Check.told("m20032009;m50042009;m09152309;m09000009;m70122309;");
        Check.due("15: only what is said yes to", z.august(0), 1);
        z.looks(4, 13, 9);
        Check.due("15: 4 has but one", z.august(0), 2);
    }

    private static void augustIsOnlySupposed() {
        MeteorsAreProposals x = Check.told("m00002000;m00032309;r00;");
        Check.due("15: two", x.august(0), 2);
        Check.due("15: one mistake", x.august(1), 1);
        Check.due("15: 0 has hers", x.looker(0, 2), 0);
        Check.due("15: 1 has none", x.looker(1, 2), 9);
        Check.due("15: night 30 is still to be run", x.run(30), 1);
    }

    private static void bestRoofTies() {
        // three steps over c: from c - 2 to c + 2
        for (int column = 0; column < 16; column++) {
            MeteorsAreProposals x = new MeteorsAreProposals();
            Check.fall(x, 0, 0, column, 2, 0);
            Check.due("16: of several the least", x.bestRoof(0, 0), Math.max(0, column - 2));
            Check.due("16: one", x.bestRoof(4, 1), 1);
        }
        // one at 15 and two at 0: most, though 13 to 15 and 0 to 2 are as wide
        MeteorsAreProposals x = Check.told("m50152009;m50002009;m50152009;");
        Check.due("16: two at the greatest column", x.bestRoof(1, 0), 15);
        Check.due("16: two", x.bestRoof(1, 1), 2);
        Check.text(x, 0, "m50002009;");
        Check.due("16: two and two: the least column", x.bestRoof(1, 0), 0);
        Check.text(x, 0, "m50072009;m50072009;m50072009;");
        Check.due("16: three in the middle", x.bestRoof(1, 0), 7);
        Check.due("16: three", x.bestRoof(1, 1), 3);
        MeteorsAreProposals edge = Check.told("m59134009;m59134009;");
        Check.due("16: where they stay", edge.bestRoof(2, 0), 15);
        Check.due("16: both", edge.bestRoof(2, 1), 2);
    }

    private static void bestRoofOfNoneAndAll() {
        MeteorsAreProposals x = new MeteorsAreProposals();
        for (int l = 0; l < 5; l++) {
            Check.due("16: of none the least column", x.bestRoof(l, 0), 0);
            Check.due("16: none", x.bestRoof(l, 1), 0);
        }
        for (int m = 0; m < 8; m++) {
            Check.fall(x, 5, 0, 9, 2, m);
        }
        Check.due("16: all eight", x.bestRoof(4, 1), 8);
        Check.due("16: from 9", x.bestRoof(4, 0), 9);
        x.looks(4, 9, 2);
        Check.due("16: too slow for three steps", x.bestRoof(4, 1), 0);
        Check.due("16: too slow for three steps", x.bestRoof(4, 0), 0);
        x.looks(4, 9, 3);
        Check.due("16: just in time", x.bestRoof(4, 1), 8);
        x.run(3);
        Check.due("16: whatever she has said", x.bestRoof(4, 1), 8);
        Check.due("16: dark ones from nowhere", Check.told("m20002009;m29152009;").bestRoof(0, 1), 0);
    }

    private static void roofsWanted() {
        Check.due("17: of none", new MeteorsAreProposals().roofs(), 0);
        Check.due("17: eight dark ones", Check.told(
            "m20002009;m21012009;m22022009;m23032009;m24042009;m25052009;m26062009;m29152009;").roofs(), 0);
        Check.due("17: BRIGHT 0 is wanted", Check.told("m20002009;m50152009;").roofs(), 1 << 15);
        Check.due("17: BRIGHT 0 at 0", Check.told("m50002009;").roofs(), 1);
        Check.due("17: the last of eight", Check.told("m20002009;".repeat(7) + "m50122009;").roofs(), 1 << 12);
        Check.due("17: a KEPT one in its only step", Check.told("m79122009;").roofs(), 1);
        Check.due("17: in the last step", Check.told("m59001009;m59051009;m50002009;").roofs(), 1);
        Check.due("17: nobody need be there, nor be quick", Check.told(ALL_FAR + "m50032009;").roofs(), 1 << 3);
    }

    private static void roofsFewest() {
        // two go from 2 to 4, two from 6 to 4, one stays at 2, one at 6: two roofs, though 4 alone sees most
        MeteorsAreProposals x = Check.told("m50023009;m50023009;m50022009;m50061009;m50061009;m50062009;");
        Check.due("17: the fewest, not the one that sees most first", x.roofs(), 1 << 2 | 1 << 6);
        // one roof of great number is fewer than two of small ones
        MeteorsAreProposals y = Check.told("m50113009;m50153009;m52114009;");
        Check.due("17: two at least", y.roofs(), 1 << 11 | 1 << 15);
        MeteorsAreProposals z = Check.told("m59114009;m59133009;m50152009;");
        Check.due("17: one of great number", z.roofs(), 1 << 15);
        int[] columns = {0, 4, 8, 12, 15, 2, 6, 10};
        MeteorsAreProposals w = new MeteorsAreProposals();
        int bits = 0;
        for (int i = 0; i < 8; i++) {
            Check.fall(w, 5, 9, columns[i], 2, 0);
            bits |= 1 << columns[i];
            Check.due("17: " + (i + 1) + " roofs", w.roofs(), i < 4 ? bits : -4);
        }
        MeteorsAreProposals last = Check.told("m50122009;m50132009;m50142009;m50152009;");
        Check.due("17: the last four columns", last.roofs(), 15 << 12);
        Check.due("17: four for eight", Check.told(
            "m50002009;m50002009;m50012009;m50012009;m50022009;m50022009;m50032009;m50032009;").roofs(), 15);
    }

    private static void roofsOfSeveral() {
        // seen from {0 1 2 3}, {3 5 7}, {4 5 6}: {3, 4} is less than {0, 5}, though 0 is the least column
        MeteorsAreProposals x = Check.told("m53003009;m50034009;m50043009;");
        Check.due("17: the least bits", x.roofs(), 1 << 3 | 1 << 4);
        Check.due("17: one roof, the least", Check.told("m00072009;").roofs(), 1 << 5);
        Check.due("17: one roof for both, the least", Check.told("m00072009;m00092009;").roofs(), 1 << 7);
        Check.due("17: two, each the least", Check.told("m00072009;m00152009;").roofs(), 1 << 5 | 1 << 13);
        Check.due("17: at the edge 0", Check.told("m00012009;m00152009;").roofs(), 1 | 1 << 13);
    }

    private static void wedByHeat() {
        // 1 alone sees them: of the most HEAT, of several the least
        MeteorsAreProposals x = Check.told("m03032009;m07032009;m07032009;m06032009;");
        Check.due("18: of several hottest the least", x.wed(1), 1);
        Check.due("18: the others see none", x.wed(0), -4);
        MeteorsAreProposals y = Check.told("m00032009;m20032009;m50032009;m42032009;");
        Check.due("18: without heat the least", y.wed(1), 0);
        // by HEAT, not by FIGURE: BALL 4 has 8, LONG 9 has 6, SLATE 9 has 0, METEOR 7 has 7
        MeteorsAreProposals z = Check.told("l1039;m59032009;m49032009;m07032009;m34032009;");
        Check.due("18: the ball", z.wed(1), 3);
        z.looks(2, 4, 5);
        Check.due("18: the next one asks for 3 in vain", z.wed(2), 2);
        z.looks(0, 3, 9);
        Check.due("18: 0 is as quick as 1, and less", z.wed(0), 3);
        Check.due("18: 1 has the next one", z.wed(1), 2);
        Check.due("18: 2 has the third", z.wed(2), 1);
        Check.due("18: the last of eight", Check.told("m20122009;".repeat(7) + "m00122009;").wed(4), 7);
    }

    private static void wedByWhomTheyAreFor() {
        for (int dear = 0; dear < 5; dear++) {
            MeteorsAreProposals x = Check.told("l0089;l1088;l2087;l3086;l4085;m05082009;");
            x.meant(0, dear);
            for (int l = 0; l < 5; l++) {
                Check.due("18: the one it is for", x.wed(l), l == dear ? 0 : -4);
            }
        }
        MeteorsAreProposals y = Check.told("l0085;l1085;l2085;l3085;l4085;m05082009;");
        for (int l = 0; l < 5; l++) {
            Check.due("18: of as quick ones the least", y.wed(l), 0);
            Check.due("18: and she alone", y.wed((l + 1) % 5), -4);
            y.looks(l, 0, 9);
        }
        MeteorsAreProposals z = Check.told("l0085;l1085;l2085;l3085;l4086;m05082009;");
        Check.due("18: more quick, though NEED is less alone", z.wed(4), 0);
        z.looks(3, 8, 7);
        Check.due("18: more quick with as much NEED", z.wed(3), 0);
        Check.due("18: 4 has none", z.wed(4), -4);
        // for 0, who does not see it, so she does not count
        MeteorsAreProposals w = Check.told("l0000;l1085;l2086;m05082000;");
        Check.due("18: not for any of those", w.wed(2), 0);
        Check.due("18: 0 has none", w.wed(0), -4);
    }

    private static void wedOnlyThose() {
        // seen, but no yes in three steps
        MeteorsAreProposals x = Check.told("l1032;m09032001;m00032001;m03032009;");
        Check.due("18: four steps are enough, heat or not", x.wed(1), 0);
        MeteorsAreProposals y = Check.told("l1032;m08032001;m02032001;m03032009;");
        Check.due("18: 8 lasts five steps", y.wed(1), 0);
        MeteorsAreProposals z = Check.told("l1032;m02032001;m01032001;m00032009;");
        Check.due("18: three steps are not enough", z.wed(1), -4);
        z.looks(1, 3, 3);
        Check.due("18: three steps are", z.wed(1), 0);
        z.looks(1, 6, 9);
        Check.due("18: three columns are too far", z.wed(1), -4);
        z.looks(1, 5, 9);
        Check.due("18: two are not", z.wed(1), 0);
        MeteorsAreProposals w = Check.told("m09032009;r00;");
        Check.due("18: whatever they have said", w.wed(1), 0);
        Check.due("18: at the edges", Check.told("m39154009;m29152009;l4139;").wed(4), 0);
    }

    private static void wedAll() {
        // all see all: by heat they go to whom they are for, the rest by quick
        MeteorsAreProposals x = Check.told("l0075;l1076;l2077;l3078;l4079;");
        Check.text(x, 0, "m09072000;m08072000;m07072009;m06072001;m05072001;m04072009;m03072003;m02072004;");
        int[] due = {0, 3, 4, 2, 1};
        for (int l = 0; l < 5; l++) {
            Check.due("18: looker " + l, x.wed(l), due[l]);
        }
        x.meant(0, 9);
        int[] then = {1, 3, 4, 2, 0};
        for (int l = 0; l < 5; l++) {
            Check.due("18: then looker " + l, x.wed(l), then[l]);
        }
        Check.due("18: nothing is said by it", x.waiting(), 31);
        // more lookers than meteors
        MeteorsAreProposals y = Check.told("l0075;l1076;l2077;l3078;l4079;m00072002;m00072009;");
        int[] few = {-4, -4, 0, -4, 1};
        for (int l = 0; l < 5; l++) {
            Check.due("18: few for looker " + l, y.wed(l), few[l]);
            Check.due("18: of none", new MeteorsAreProposals().wed(l), -4);
        }
    }

    private static void ringsOfNone() {
        MeteorsAreProposals x = Check.told("m00002001;m00032000;");
        Check.due("19: nobody said yes", x.rings(0), 0);
        Check.due("19: nobody changes", x.rings(1), 0);
        x.run(0);
        Check.due("19: both", x.rings(0), 2);
        Check.due("19: both change", x.rings(1), 2);
        x.free(1);
        Check.due("19: 1 has none to change", x.rings(0), 0);
        Check.due("19: none", x.rings(1), 0);
        x.meant(0, 0);
        Check.due("19: one has hers", x.rings(0), 1);
        Check.due("19: none changes", x.rings(1), 0);
        MeteorsAreProposals y = Check.told("m00002009;m00032009;m00062009;m00092009;m00122009;r00;");
        Check.due("19: for nobody", y.rings(0), 0);
        Check.due("19: so none changes", y.rings(1), 0);
        // one that nobody said yes to is not among them
        MeteorsAreProposals z = Check.told("m00002001;m00002000;r00;");
        Check.due("19: what nobody has is not to be had", z.rings(0), 0);
        Check.due("19: none changes", z.rings(1), 0);
    }

    private static void ringsAll() {
        MeteorsAreProposals x = Check.told("m00002009;m00032009;m00062009;m00092009;m00122009;r00;");
        int[][] rings = {
            // whom 0 .. 4 are for, how many, how many change
            {0, 1, 2, 3, 4, 5, 0}, {1, 2, 3, 4, 0, 5, 5}, {4, 0, 1, 2, 3, 5, 5}, {1, 0, 3, 2, 4, 5, 4},
            {1, 0, 2, 3, 4, 5, 2}, {1, 0, 3, 4, 2, 5, 5}, {0, 0, 0, 0, 0, 1, 0}, {1, 1, 1, 1, 1, 1, 0},
            {1, 2, 9, 9, 9, 2, 3}, {1, 9, 9, 9, 9, 1, 2}, {4, 9, 9, 9, 0, 2, 2}, {1, 2, 3, 4, 9, 4, 5},
            {1, 1, 0, 0, 9, 2, 2}, {2, 2, 0, 0, 1, 3, 4}, {9, 9, 9, 9, 0, 1, 2}, {3, 3, 3, 3, 9, 1, 0},
            {1, 0, 0, 1, 9, 2, 2}, {2, 0, 1, 9, 9, 3, 3}, {1, 2, 0, 4, 3, 5, 5}, {2, 3, 9, 9, 9, 2, 4},
        };
        for (int[] ring : rings) {
            StringBuilder name = new StringBuilder("19: for");
            for (int m = 0; m < 5; m++) {
                x.meant(m, ring[m]);
                name.append(' ').append(ring[m]);
            }
            Check.due(name.toString(), x.rings(0), ring[5]);
            Check.due(name + " change", x.rings(1), ring[6]);
        }
    }

    /** Of the ways to have most by whom they are for, the one in which fewest have another one. */
    private static void ringsFewestChanges() {
        // 0 has A for 1, 1 has B for 1, 2 has C for 0: 1 keeps B, or takes A; 0 takes C, and 2 what is left
        MeteorsAreProposals x = Check.told("m00002001;m00032001;m00062000;r00;");
        Check.due("19: two", x.rings(0), 2);
        Check.due("19: 1 keeps hers", x.rings(1), 2);
        // 4 has the last of eight
        MeteorsAreProposals y = Check.told("m00002009;" + "m20032009;".repeat(6) + "m00122000;r00;");
        y.meant(0, 4);
        Check.due("19: 0 and 4", y.rings(0), 2);
        Check.due("19: both change", y.rings(1), 2);
        y.rings(0);
        Check.due("19: nothing changed", y.looker(4, 2), 7);
    }
}
