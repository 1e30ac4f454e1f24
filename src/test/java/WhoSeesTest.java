/** Promises 10 to 19: who sees what, who takes it, an August, roofs, matchings, rings. */
public final class WhoSeesTest {
    private WhoSeesTest() {
    }

    public static void main(String[] args) {
        seen();
        taker();
        unseen();
        mistakesAndWaiting();
        august();
        bestRoof();
        roofs();
        wed();
        wedByRather();
        rings();
        Check.end();
    }

    private static void seen() {
        // METEOR 9 from column 0 by 2: 0 2 4 6 8 10; SLATE 9 from 3 by -1: 3 2 1 0 0 0; DARK; KEPT 0 over 10
        MeteorsAreProposals x = Check.told("m09004009;m59031009;m29032009;m70102009;m49143009;");
        Check.due("10: from 0", x.seen(0, 0, 0), 0b11);
        Check.due("10: from 3", x.seen(1, 0, 0), 0b110);
        Check.due("10: from 6", x.seen(2, 0, 0), 0b11100);
        Check.due("10: from 12", x.seen(4, 0, 0), 0b100000);
        Check.due("10: no third time", x.seen(0, 0, 1), -4);
        Check.due("10: the third time", x.seen(2, 0, 1), 4);
        x.looks(2, 6, 6);
        Check.due("10: the second time", x.seen(2, 0, 1), 3);
        x.looks(2, 6, 9);
        Check.due("10: the first time", x.seen(2, 0, 1), 2);
        x.looks(2, 6, 2);
        Check.due("10: no fourth time", x.seen(2, 0, 1), -4);
        Check.due("10: a slate stays at the edge", x.seen(0, 1, 0), 0b111000);
        Check.due("10: yes", x.seen(0, 1, 1), 5);
        Check.due("10: a slate is seen from its column alone", x.seen(1, 1, 0), 1);
        Check.due("10: a dark one", x.seen(1, 2, 0), 0);
        Check.due("10: a dark one", x.seen(1, 2, 1), -4);
        Check.due("10: a kept one", x.seen(2, 3, 0), 1);
        Check.due("10: a kept one is too far", x.seen(1, 3, 0), 0);
        x.looks(4, 15, 5);
        Check.due("10: a long one stays at column 15", x.seen(4, 4, 0), 0b11111111111111);
        Check.due("10: what 2", x.seen(0, 0, 2), -1);
        Check.due("10: what -1", x.seen(0, 0, -1), -1);
        Check.due("10: meteor", x.seen(0, 5, 0), -1);
        Check.due("10: looker", x.seen(5, 0, 0), -1);
        Check.due("10: looker", x.seen(-1, 0, 0), -1);
    }

    private static void taker() {
        MeteorsAreProposals x = Check.told("m09004009;m59152009;l0035;l1037;l3039;");
        Check.due("11: 3 sees it once in step 1", x.taker(0), 3);
        x.looks(3, 15, 9);
        Check.due("11: 1 sees it twice by step 2", x.taker(0), 1);
        x.looks(1, 3, 5);
        Check.due("11: 2 sees it three times by step 4", x.taker(0), 2);
        Check.due("11: 3 takes the slate", x.taker(1), 3);
        x.run(0);
        Check.due("11: whatever they have said", x.taker(0), 2);
        x.looks(3, 14, 9);
        Check.due("11: nobody", x.taker(1), -4);
        Check.due("11: no such one", x.taker(2), -1);
        Check.due("11: below 0", x.taker(-1), -1);
        MeteorsAreProposals y = Check.told("l0045;l1045;m00042009;");
        Check.due("11: of several the least", y.taker(0), 0);
        Check.due("11: the last looker", Check.told("m00142009;").taker(0), 4);
        Check.due("11: the last looker", Check.told("m00142009;").unseen(), 0);
    }

    private static void unseen() {
        MeteorsAreProposals x = Check.told("m00002009;m20002009;m50012009;m50062009;m00152009;");
        Check.due("12: the dark one, a slate between, one too far", x.unseen(), 0b10110);
        x.looks(4, 13, 0);
        Check.due("12: seen, though too slow to say yes", x.unseen(), 0b00110);
        Check.due("12: of none", new MeteorsAreProposals().unseen(), 0);
        Check.due("12: the first", Check.told("m20002009;m00002009;").unseen(), 1);
    }

    private static void mistakesAndWaiting() {
        MeteorsAreProposals x = Check.told("m00002000;m00032000;m00062009;m00092093;r00;");
        Check.due("13: 1 has what is for 0, 2 what is for nobody", x.mistakes(), 0b110);
        Check.due("14: 3 and 4", x.waiting(), 0b11000);
        x.run(9);
        Check.due("13: 3 has hers", x.mistakes(), 0b110);
        Check.due("14: 4", x.waiting(), 0b10000);
        x.meant(1, 1);
        Check.due("13: no mistake any more", x.mistakes(), 0b100);
        x.free(2);
        Check.due("13: none", x.mistakes(), 0);
        Check.due("14: 2 and 4", x.waiting(), 0b10100);
        Check.due("14: all", new MeteorsAreProposals().waiting(), 31);
        Check.due("13: a mistake of 0", Check.told("m00002001;r00;").mistakes(), 1);
    }

    private static void august() {
        MeteorsAreProposals x = Check.told("m00002000;m00032300;m00062079;m00062069;m20002010;");
        Check.due("15: how many", x.august(0), 3);
        Check.due("15: mistakes", x.august(1), 2);
        Check.due("15: only supposed", x.waiting(), 31);
        Check.due("15: by nights, 3 ahead of 2", x.run(6), 1);
        Check.due("15: 2 has 3", x.looker(2, 2), 3);
        Check.due("15: those already said count", x.august(0), 3);
        Check.due("15: only supposed", x.count(5), 8);
        Check.due("15: what 2", x.august(2), -1);
        Check.due("15: what -1", x.august(-1), -1);
    }

    private static void bestRoof() {
        // seen for all of 3 steps from 3 to 7, 6 to 10, 13 to 15
        MeteorsAreProposals x = Check.told("m00052009;m00082000;m00152009;r00;");
        Check.due("16: two at once from 6 on", x.bestRoof(0, 0), 6);
        Check.due("16: two", x.bestRoof(0, 1), 2);
        Check.due("16: whatever she has said", x.bestRoof(2, 1), 2);
        x.looks(0, 0, 2);
        Check.due("16: too slow from everywhere", x.bestRoof(0, 0), 0);
        Check.due("16: none", x.bestRoof(0, 1), 0);
        x.looks(0, 0, 9);
        Check.due("16: a yes in step 0 counts", x.bestRoof(0, 1), 2);
        Check.due("16: what", x.bestRoof(0, 2), -1);
        Check.due("16: what", x.bestRoof(0, -1), -1);
        Check.due("16: looker", x.bestRoof(5, 0), -1);
        Check.due("16: looker", x.bestRoof(-1, 0), -1);
    }

    private static void roofs() {
        Check.due("17: none wanted", new MeteorsAreProposals().roofs(), 0);
        Check.due("17: a dark one is not wanted", Check.told("m20002009;").roofs(), 0);
        MeteorsAreProposals x = Check.told("m50002009;m50052009;");
        Check.due("17: two slates", x.roofs(), 0b100001);
        MeteorsAreProposals y = Check.told("m00052009;m50052009;m00092009;");
        Check.due("17: the slate's, and the least by which the other is seen", y.roofs(), 1 << 5 | 1 << 7);
        MeteorsAreProposals z = Check.told("m00022009;m00062009;m00102009;");
        Check.due("17: two, the least bits", z.roofs(), 1 << 0 | 1 << 8);
        MeteorsAreProposals four = Check.told("m50012009;m50032009;m50052009;m50152009;");
        Check.due("17: four", four.roofs(), 1 << 1 | 1 << 3 | 1 << 5 | 1 << 15);
        Check.due("17: five are too many", Check.text(four, 0, "m50092009;"), 1);
        Check.due("17: five are too many", four.roofs(), -4);
        // the slate in step 2 is over 4: one roof is enough, though 0 would see it first
        Check.due("17: in some step", Check.told("m50004009;m50042009;").roofs(), 1 << 4);
    }

    private static void wed() {
        // all three are seen by 0, 1 and 2 from column 5; heat 3, 9, 9
        MeteorsAreProposals x = Check.told("l0059;l1058;l2057;m03052009;m09052002;m09052009;r00;");
        Check.due("18: 0 asks 1, which would rather 2, so has 2", x.wed(0), 2);
        Check.due("18: 1 is left with 0", x.wed(1), 0);
        Check.due("18: 2 has the one for her", x.wed(2), 1);
        Check.due("18: 3 sees none", x.wed(3), -4);
        Check.due("18: looker", x.wed(5), -1);
        Check.due("18: looker", x.wed(-1), -1);
        Check.due("18: of none", new MeteorsAreProposals().wed(0), -4);
    }

    private static void wedByRather() {
        // 3 and 4 are as quick: the one meteor would rather the least; 0 is quicker, but does not say yes
        MeteorsAreProposals x = Check.told("l3105;l4105;m03102000;");
        Check.due("18: 0 never says yes", x.wed(0), -4);
        Check.due("18: the least", x.wed(3), 0);
        Check.due("18: the other one has none", x.wed(4), -4);
        x.looks(4, 10, 6);
        Check.due("18: more quick", x.wed(4), 0);
        Check.due("18: pushed out", x.wed(3), -4);
        x.meant(0, 3);
        Check.due("18: for her", x.wed(3), 0);
        MeteorsAreProposals two = Check.told("l1105;l4105;m04102009;m04102009;m04102009;");
        Check.due("18: of as much heat the least", two.wed(1), 0);
        Check.due("18: then the next, by 3", two.wed(3), 1);
        Check.due("18: the last is left for 4", two.wed(4), 2);
        // a dark one is never asked, one without heat is
        MeteorsAreProposals y = Check.told("m29032009;m00032009;");
        Check.due("18: without heat", y.wed(1), 1);
    }

    private static void rings() {
        MeteorsAreProposals x = Check.told("m00002001;m00032002;m00062000;m00092003;r00;");
        Check.due("19: all four", x.rings(0), 4);
        Check.due("19: three change", x.rings(1), 3);
        x.meant(2, 9);
        Check.due("19: two of the ring, and 3", x.rings(0), 3);
        Check.due("19: three change for two", x.rings(1), 3);
        x.meant(1, 1);
        Check.due("19: 0 and 1 are both for 1", x.rings(0), 2);
        Check.due("19: none need change", x.rings(1), 0);
        x.free(1);
        Check.due("19: one who has none does not change", x.rings(0), 1);
        Check.due("19: none", x.rings(1), 0);
        Check.due("19: nothing changed", x.looker(0, 2), 0);
        Check.due("19: what", x.rings(2), -1);
        Check.due("19: what", x.rings(-1), -1);
        Check.due("19: of none", new MeteorsAreProposals().rings(0), 0);
    }
}
