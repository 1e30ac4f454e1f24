/** Promises 1 to 42, gone through from the first line to the last: each as it stands there, by what and by refusal. */
public final class PromisesTest {
    private static final long LONG_REFUSED = 1000000001L;
    private static Document promises;

    private PromisesTest() {
    }

    public static void main(String[] args) throws Exception {
        promises = Document.part("## Promise 1:", "## Not promised");
        newObject();
        sky();
        meteor();
        looker();
        falls();
        meantAndLooks();
        runAndFree();
        seenAndTaker();
        unseenToWaiting();
        august();
        bestRoofAndRoofs();
        wedAndRings();
        curve();
        comesAndTogether();
        clouds();
        darkOnes();
        game();
        rowOfRoofsAndLaws();
        scorchedAndMean();
        forgedAndJudge();
        augusts();
        image();
        count();
        keepAndRow();
        putAndElement();
        copy();
        costAndToss();
        promises.ends();
        Check.end();
    }

    /** Shelf 0 holds bytes 1 and 2, 1 shorts 3 and 4, 2 a BALL 4, 3 nothing; meteors 0, 1, 2 fall in nights 0, 0, 1. */
    private static MeteorsAreProposals coast() {
        MeteorsAreProposals x = Check.told("m39002001;m59092009;m00032012;");
        Check.row(x, 0, Check.BYTES, 1, 2);
        Check.row(x, 1, Check.SHORTS, 3, 4);
        x.keep(2, 1, 3, 4);
        return x;
    }

    private static void dues(String call, int[] got, int... due) {
        Check.due("how many answers of " + call, got.length, due.length);
        for (int i = 0; i < got.length; i++) {
            Check.due(call + ", answer " + i, got[i], due[i]);
        }
    }

    private static void newObject() {
        promises.says("## Promise 1: A new object `MeteorsAreProposals()`: No METEORS.");
        MeteorsAreProposals x = new MeteorsAreProposals();
        dues("new", new int[] {x.count(0), x.count(5), x.meteor(0, 0), x.waiting(), x.restore(), x.cost(0)},
            0, 0, -1, 31, -3, -11);
    }

    private static void sky() {
        promises.says("## Promise 2: sky `int sky(int d)`: The text in SHELF d: how many STATEMENTS; the FAULT. -1, "
            + "-11, -12 (no ROW of bytes).");
        MeteorsAreProposals x = coast();
        Check.due("statements", Check.text(x, 3, "f0;l1049;r00;m00032009;"), 4);
        Check.due("kind 1", Check.text(x, 3, "f0;l104;"), -1007);
        Check.due("kind 2", Check.text(x, 3, "f0;l1169;"), -2003);
        x.keep(3, 0, 0, 0);
        dues("sky", new int[] {x.sky(-1), x.sky(8), x.sky(3), x.sky(2), x.sky(1)}, -1, -1, -11, -12, -12);
    }

    private static void meteor() {
        promises.says("## Promise 3: meteor `int meteor(int m, int what)`: Of a METEOR: KIND (what 0), FIGURE (1), "
            + "COLUMN (2), SLOPE (3), NIGHT (4), FOR (5; 9), LASTS (6), BRIGHT and 10 (7), PERIOD (8), HEAT (9). -1.");
        MeteorsAreProposals x = Check.told("m39113021;m29154309;");
        int[][] due = {{3, 9, 11, 3, 2, 1, 5, 16, 12, 18}, {2, 9, 15, 4, 30, 9, 6, 9, 24, 9}};
        for (int m = 0; m < 2; m++) {
            for (int what = 0; what < 10; what++) {
                Check.due("meteor " + m + ", " + what, x.meteor(m, what), due[m][what]);
            }
        }
        dues("meteor", new int[] {x.meteor(-1, 0), x.meteor(2, 0), x.meteor(0, -1), x.meteor(0, 10)}, -1, -1, -1, -1);
    }

    private static void looker() {
        promises.says("## Promise 4: looker `int looker(int l, int what)`: Of a LOOKER: ROOF (what 0), QUICK (1), "
            + "SAID (2; 9), NEED (3). -1.");
        MeteorsAreProposals x = Check.told("m00000009;m00032009;l1036;r00;");
        dues("looker 1", new int[] {x.looker(1, 0), x.looker(1, 1), x.looker(1, 2), x.looker(1, 3)}, 3, 6, 1, 2);
        dues("looker 4", new int[] {x.looker(4, 0), x.looker(4, 1), x.looker(4, 2), x.looker(4, 3)}, 12, 5, 9, 3);
        dues("looker", new int[] {x.looker(-1, 0), x.looker(5, 0), x.looker(0, -1), x.looker(0, 4)}, -1, -1, -1, -1);
    }

    private static void falls() {
        promises.says("## Promise 5: falls `int falls(int d, int column, int slope, int night)`: The one on SHELF d "
            + "is a METEOR more (FOR nobody): its number. -1, -11, -12 (a ROW), -2.");
        MeteorsAreProposals x = coast();
        for (int m = 3; m < 8; m++) {
            Check.due("its number", x.falls(2, 15, 4, 30), m);
            dues("what falls", new int[] {x.meteor(m, 0), x.meteor(m, 1), x.meteor(m, 2), x.meteor(m, 3),
                x.meteor(m, 4), x.meteor(m, 5)}, 3, 4, 15, 4, 30, 9);
        }
        dues("falls", new int[] {x.falls(2, 0, 0, 0), x.falls(0, 0, 0, 0), x.falls(3, 0, 0, 0), x.falls(8, 0, 0, 0),
            x.falls(2, 16, 0, 0), x.falls(2, 0, 5, 0), x.falls(2, 0, 0, 31), x.falls(2, -1, 0, 0)},
            -2, -12, -11, -1, -1, -1, -1, -1);
    }

    private static void meantAndLooks() {
        promises.says("## Promise 6: meant `int meant(int m, int l)`: It is FOR one (9 nobody): whom it was. -1.");
        MeteorsAreProposals x = coast();
        dues("meant", new int[] {x.meant(0, 4), x.meant(0, 9), x.meant(0, 0), x.meteor(0, 5)}, 1, 4, 9, 0);
        dues("meant", new int[] {x.meant(3, 0), x.meant(-1, 0), x.meant(0, 5), x.meant(0, 8), x.meant(0, 10),
            x.meant(0, -1), x.meteor(0, 5)}, -1, -1, -1, -1, -1, -1, 0);
        promises.says("## Promise 7: looks `int looks(int l, int roof, int quick)`: ROOF, QUICK become others: what "
            + "ROOF was. -1.");
        dues("looks", new int[] {x.looks(3, 15, 0), x.looks(3, 0, 9), x.looker(3, 0), x.looker(3, 1)}, 9, 15, 0, 9);
        dues("looks", new int[] {x.looks(5, 0, 0), x.looks(-1, 0, 0), x.looks(3, 16, 0), x.looks(3, -1, 0),
            x.looks(3, 1, 10), x.looks(3, 1, -1), x.looker(3, 0), x.looker(3, 1)}, -1, -1, -1, -1, -1, -1, 0, 9);
    }

    private static void runAndFree() {
        promises.says("## Promise 8: run `int run(int night)`: A NIGHT is run: how many are SAID yes to in it. -1.");
        // BALL 9 by looker 0 from 0, SLATE 9 by looker 3 from 9, METEOR by looker 1 from 3
        MeteorsAreProposals x = coast();
        dues("run", new int[] {x.run(0), x.run(0), x.run(1), x.run(30), x.run(31), x.run(-1)}, 2, 0, 1, 0, -1, -1);
        dues("said", new int[] {x.looker(0, 2), x.looker(1, 2), x.looker(2, 2), x.looker(3, 2)}, 0, 2, 9, 1);
        promises.says("## Promise 9: free `int free(int l)`: She has SAID yes to none: what it was (9). -1.");
        dues("free", new int[] {x.free(1), x.free(1), x.looker(1, 2), x.looker(0, 2), x.free(5), x.free(-1)},
            2, 9, 9, 0, -1, -1);
    }

    private static void seenAndTaker() {
        promises.says("## Promise 10: seen `int seen(int l, int m, int what)`: SEEN (what 0, bits), YES (1; -4). -1.");
        MeteorsAreProposals x = coast();
        dues("seen", new int[] {x.seen(1, 2, 0), x.seen(1, 2, 1), x.seen(0, 2, 0), x.seen(0, 2, 1)}, 7, 2, 0, -4);
        dues("seen", new int[] {x.seen(5, 0, 0), x.seen(-1, 0, 0), x.seen(0, 3, 0), x.seen(0, -1, 1), x.seen(0, 0, 2),
            x.seen(0, 0, -1)}, -1, -1, -1, -1, -1, -1);
        promises.says("## Promise 11: taker `int taker(int m)`: TAKER; -4. -1.");
        dues("taker", new int[] {x.taker(0), x.taker(1), x.taker(2), x.taker(3), x.taker(-1)}, 0, 3, 1, -1, -1);
        x.looks(3, 10, 9);
        Check.due("none", x.taker(1), -4);
    }

    private static void unseenToWaiting() {
        promises.says("## Promise 12: unseen `int unseen()`: UNSEEN (bits).");
        MeteorsAreProposals x = coast();
        Check.due("all are seen", x.unseen(), 0);
        x.looks(3, 10, 9);
        Check.due("the slate is not", x.unseen(), 0b10);
        promises.says("## Promise 13: mistakes `int mistakes()`: MISTAKES (bits).");
        MeteorsAreProposals y = Check.told("m00032019;m00032001;m50062002;m50122000;r00;");
        Check.due("looker 4 said it, it is for 0", y.mistakes(), 0b1000);
        promises.says("## Promise 14: waiting `int waiting()`: WAITING (bits).");
        Check.due("1, 2, 4 have said yes", y.waiting(), 0b01001);
    }

    private static void august() {
        promises.says("## Promise 15: august `int august(int what)`: AUGUST: how many (what 0), MISTAKES (1). -1.");
        MeteorsAreProposals x = coast();
        dues("august", new int[] {x.august(0), x.august(1), x.august(2), x.august(-1)}, 3, 3, -1, -1);
        x.meant(0, 0);
        dues("august", new int[] {x.august(0), x.august(1), x.count(5)}, 3, 2, 0);
    }

    private static void bestRoofAndRoofs() {
        promises.says("## Promise 16: bestRoof `int bestRoof(int l, int what)`: BEST ROOF (what 0), how many (1). "
            + "-1.");
        MeteorsAreProposals x = coast();
        // the BALL up to 6, the METEOR from 1 to 5
        dues("bestRoof", new int[] {x.bestRoof(4, 0), x.bestRoof(4, 1), x.bestRoof(5, 0), x.bestRoof(-1, 1),
            x.bestRoof(0, 2), x.bestRoof(0, -1)}, 1, 2, -1, -1, -1, -1);
        promises.says("## Promise 17: roofs `int roofs()`: ROOFS (bits); -4.");
        Check.due("1 and 9", x.roofs(), 0b1000000010);
        Check.due("five slates", Check.told("m50002009;m50012009;m50022009;m50032009;m50042009;").roofs(), -4);
    }

    private static void wedAndRings() {
        promises.says("## Promise 18: wed `int wed(int l)`: WED; -4. -1.");
        MeteorsAreProposals x = coast();
        // the BALL, for 1, is wanted by 0, 1 and 2; the slate by 3; the METEOR by 1 less than the BALL
        dues("wed", new int[] {x.wed(0), x.wed(1), x.wed(2), x.wed(3), x.wed(4), x.wed(5), x.wed(-1)},
            -4, 0, -4, 1, -4, -1, -1);
        promises.says("## Promise 19: rings `int rings(int what)`: RINGS: how many (what 0), how many change (1). "
            + "-1.");
        dues("rings", new int[] {x.rings(0), x.rings(1), x.rings(2), x.rings(-1)}, 0, 0, -1, -1);
        x.run(0);
        x.run(1);
        // 0 said that of 1, 1 that of 2, 3 that of nobody
        dues("rings", new int[] {x.rings(0), x.rings(1)}, 1, 2);
    }

    private static void curve() {
        promises.says("## Promise 20: curve `int curve(int d, int what)`: CURVE by the ROW in SHELF d: bits (what "
            + "0), how many (1), NEXT (2; -4). -1, -11, -12 (no ROW).");
        MeteorsAreProposals x = coast();
        dues("curve", new int[] {x.curve(0, 0), x.curve(0, 1), x.curve(0, 2)}, 0, 0, -4);
        Check.row(x, 0, Check.INTS, 3, 3);
        dues("curve", new int[] {x.curve(0, 0), x.curve(0, 1), x.curve(0, 2)}, 0b100, 1, 3);
        dues("curve", new int[] {x.curve(8, 0), x.curve(-1, 0), x.curve(0, 3), x.curve(0, -1), x.curve(3, 0),
            x.curve(2, 0), x.curve(3, 3)}, -1, -1, -1, -1, -11, -12, -1);
    }

    private static void comesAndTogether() {
        promises.says("## Promise 21: comes `int comes(int m, int v)`: COMES; -4. -1.");
        // every 12 nights from 0, every 24 from 0, every 3 from 1
        MeteorsAreProposals x = coast();
        dues("comes", new int[] {x.comes(0, 1), x.comes(1, 1), x.comes(2, 2), x.comes(1, 361), x.comes(2, 365)},
            12, 24, 4, -4, -4);
        dues("comes", new int[] {x.comes(3, 0), x.comes(-1, 0), x.comes(0, -1), x.comes(0, 366)}, -1, -1, -1, -1);
        promises.says("## Promise 22: together `int together(int m, int n)`: TOGETHER; -4. -1 (one twice).");
        dues("together", new int[] {x.together(0, 1), x.together(0, 2), x.together(1, 2), x.together(1, 1),
            x.together(0, 3), x.together(3, 0), x.together(-1, 0), x.together(0, -1)}, 0, -4, -4, -1, -1, -1, -1, -1);
    }

    private static void clouds() {
        promises.says("## Promise 23: clouds `long clouds(int l, int m, int t, int part)`: CLOUDS; part 0 above, 1 "
            + "below the line. Refused as told: -1.");
        MeteorsAreProposals x = coast();
        Check.due("all of three steps, 9 in 10", x.clouds(1, 2, 10, 0), 729);
        Check.due("all of three steps, 9 in 10", x.clouds(1, 2, 10, 1), 1000);
        int[][] refused = {{5, 0, 2, 0}, {-1, 0, 2, 0}, {0, 3, 2, 0}, {0, -1, 2, 0}, {0, 0, 1, 0}, {0, 0, 21, 1},
            {0, 0, 0, 0}, {0, 0, 2, 2}, {0, 0, 2, -1}};
        for (int[] one : refused) {
            Check.due("clouds refused", x.clouds(one[0], one[1], one[2], one[3]), LONG_REFUSED);
        }
    }

    private static void darkOnes() {
        promises.says("## Promise 24: darkOnes `int darkOnes(int d, int what)`: DARK ONES by the ROW in SHELF d: "
            + "the NIGHT (what 0; -4), how many (1). -1, -11, -12 (no ROW), -13 (more than 31 numbers, one not 0 .. "
            + "99).");
        MeteorsAreProposals x = coast();
        dues("darkOnes", new int[] {x.darkOnes(0, 0), x.darkOnes(0, 1)}, 0, 1);
        x.put(0, 0, 2);
        dues("darkOnes", new int[] {x.darkOnes(0, 0), x.darkOnes(0, 1)}, -4, 0);
        dues("darkOnes", new int[] {x.darkOnes(8, 0), x.darkOnes(-1, 0), x.darkOnes(0, 2), x.darkOnes(0, -1),
            x.darkOnes(3, 0), x.darkOnes(2, 0)}, -1, -1, -1, -1, -11, -12);
        x.put(0, 1, 100);
        Check.due("100", x.darkOnes(0, 0), -13);
        x.put(0, 1, 99);
        Check.due("99", x.darkOnes(0, 0), -4);
        x.put(0, 1, -1);
        Check.due("-1", x.darkOnes(0, 1), -13);
        x.row(0, 0, 31);
        Check.due("31 numbers", x.darkOnes(0, 1), 3);
        x.row(0, 0, 32);
        Check.due("32 numbers", x.darkOnes(0, 1), -13);
    }

    private static void game() {
        promises.says("## Promise 25: game `int game(int m, int a, int b, int what)`: GAME: STEPS (what 0), the "
            + "ROOF (1). -1.");
        // a BALL of BRIGHT 6 and five steps, straight down: from 5 it is seen over 0, 5 and 10
        MeteorsAreProposals x = coast();
        dues("game", new int[] {x.game(0, 0, 0, 0), x.game(0, 0, 0, 1), x.game(1, 3, 3, 0), x.game(1, 3, 3, 1)},
            5, 5, 0, 3);
        dues("game", new int[] {x.game(3, 0, 0, 0), x.game(-1, 0, 0, 0), x.game(0, 6, 0, 0), x.game(0, -1, 0, 0),
            x.game(0, 0, 6, 0), x.game(0, 0, -1, 0), x.game(0, 0, 0, 2), x.game(0, 0, 0, -1)},
            -1, -1, -1, -1, -1, -1, -1, -1);
    }

    private static void rowOfRoofsAndLaws() {
        promises.says("## Promise 26: rowOfRoofs `int rowOfRoofs(int c)`: ROW OF ROOFS. -1.");
        // the BALL from 0 .. 6, the slate from 9, the METEOR from 1 .. 5
        MeteorsAreProposals x = coast();
        dues("rowOfRoofs", new int[] {x.rowOfRoofs(0), x.rowOfRoofs(5), x.rowOfRoofs(6), x.rowOfRoofs(7),
            x.rowOfRoofs(10), x.rowOfRoofs(11), x.rowOfRoofs(12), x.rowOfRoofs(-1)}, 2, 3, 2, 1, 0, 0, -1, -1);
        promises.says("## Promise 27: laws `int laws(int d, int f, int what)`: LAWS by the ROW in SHELF d: bits "
            + "(what 0), how many (1). -1, -11, -12 (no ROW), -13 unwhole.");
        Check.row(x, 0, Check.BYTES, 3, 2);
        dues("laws", new int[] {x.laws(0, 0, 0), x.laws(0, 0, 1), x.laws(0, 9, 0), x.laws(0, 9, 1)},
            0b1000001, 2, 0, 0);
        dues("laws", new int[] {x.laws(8, 0, 0), x.laws(-1, 0, 0), x.laws(0, 10, 0), x.laws(0, -1, 0), x.laws(0, 0, 2),
            x.laws(0, 0, -1), x.laws(3, 0, 0), x.laws(2, 0, 0)}, -1, -1, -1, -1, -1, -1, -11, -12);
        x.row(0, 0, 3);
        Check.due("unwhole", x.laws(0, 0, 0), -13);
    }

    private static void scorchedAndMean() {
        promises.says("## Promise 28: scorched `int scorched(int l)`: SCORCHED. -1.");
        MeteorsAreProposals x = coast();
        x.run(0);
        dues("scorched", new int[] {x.scorched(0), x.scorched(1), x.scorched(3), x.scorched(5), x.scorched(-1)},
            13, 0, 0, -1, -1);
        promises.says("## Promise 29: mean `long mean(int part)`: MEAN HEAT; part likewise. Refused as told: -1.");
        Check.due("18 by 3, above", x.mean(0), 6);
        Check.due("18 by 3, below", x.mean(1), 1);
        Check.due("part 2", x.mean(2), LONG_REFUSED);
        Check.due("part -1", x.mean(-1), LONG_REFUSED);
    }

    private static void forgedAndJudge() {
        promises.says("## Promise 30: forged `int forged(int d)`: FORGED by the ROW in SHELF d; -4. -1, -11, -12 "
            + "(no ROW).");
        MeteorsAreProposals x = coast();
        Check.due("meteor 0 is taken by 0", x.forged(0), 0);
        Check.row(x, 0, Check.SHORTS, 0, 3, 1);
        Check.due("all is so", x.forged(0), -4);
        dues("forged", new int[] {x.forged(8), x.forged(-1), x.forged(3), x.forged(2)}, -1, -1, -11, -12);
        promises.says("## Promise 31: judge `int judge(int d, int v)`: JUDGED by the ROW in SHELF d from NIGHT v (0 "
            + ".. 365) on; -4. -1, -11, -12.");
        // every 12 and 24 nights from 0, every 3 from 1
        Check.row(x, 0, Check.SHORTS, 2, 1, 0, 0, 1);
        dues("judge", new int[] {x.judge(0, 0), x.judge(0, 1), x.judge(0, 24), x.judge(0, 12)}, -4, 0, -4, 0);
        dues("judge", new int[] {x.judge(0, 365), x.judge(0, 366), x.judge(0, -1), x.judge(8, 0), x.judge(-1, 0),
            x.judge(3, 0), x.judge(2, 0), x.judge(3, 366)}, 0, -1, -1, -1, -1, -11, -12, -1);
    }

    private static void augusts() {
        promises.says("## Promise 32: augusts `int augusts(int n, int z, int what)`: AUGUSTS: TAKEN (what 0), by "
            + "whom they are FOR (1). -1.");
        // with seed 1: roofs 6 1 11 2 4, quick 8 5 7 9 6; the BALL by 3 in step 0, the METEOR by 3 in step 0
        MeteorsAreProposals x = coast();
        dues("augusts", new int[] {x.augusts(1, 1, 0), x.augusts(1, 1, 1)}, 2, 0);
        x.meant(0, 3);
        dues("augusts", new int[] {x.augusts(1, 1, 1), x.looker(3, 0), x.looker(3, 1)}, 1, 9, 5);
        dues("augusts", new int[] {x.augusts(0, 1, 0), x.augusts(21, 1, 0), x.augusts(-1, 1, 0), x.augusts(1, 1, 2),
            x.augusts(1, 1, -1)}, -1, -1, -1, -1, -1);
    }

    private static void image() {
        promises.says("## Promise 33: image `int image()`: THE IMAGE is taken: how many METEORS.");
        promises.says("## Promise 34: restore `int restore()`: THE IMAGE is RESTORED: how many METEORS. -3 there is "
            + "none.");
        MeteorsAreProposals x = new MeteorsAreProposals();
        dues("image", new int[] {x.restore(), x.image(), x.restore()}, -3, 0, 0);
        MeteorsAreProposals y = coast();
        dues("image", new int[] {y.restore(), y.image(), y.falls(2, 0, 0, 0), y.count(0), y.restore(), y.count(0)},
            -3, 3, 3, 4, 3, 3);
    }

    private static void count() {
        promises.says("## Promise 35: count `int count(int what)`: 0 METEORS, 1 all HEAT, 2 all LASTS, 3 all QUICK, "
            + "4 all ROOFS together, 5 METEORS (bits) SAID yes to; -1 for others.");
        MeteorsAreProposals x = coast();
        x.run(0);
        x.looks(4, 15, 9);
        dues("count", new int[] {x.count(0), x.count(1), x.count(2), x.count(3), x.count(4), x.count(5), x.count(6),
            x.count(-1)}, 3, 18, 14, 29, 33, 0b11, -1, -1);
    }

    private static void keepAndRow() {
        promises.says("## Promise 36: keep `int keep(int d, int what, int k, int figure)`: SHELF d gets: what = 0 "
            + "nothing (the others do not matter); 1 a KIND of METEOR of KIND k with a FIGURE: 0. -1.");
        MeteorsAreProposals x = coast();
        dues("keep", new int[] {x.keep(0, 1, 4, 9), x.cost(0), x.toss(0), x.keep(0, 0, -7, 77), x.cost(0)},
            0, 16, 216, 0, -11);
        dues("keep", new int[] {x.keep(8, 0, 0, 0), x.keep(-1, 1, 0, 0), x.keep(2, 2, 0, 0), x.keep(2, -1, 0, 0),
            x.keep(2, 1, 8, 0), x.keep(2, 1, -1, 0), x.keep(2, 1, 0, 10), x.keep(2, 1, 0, -1), x.toss(2)},
            -1, -1, -1, -1, -1, -1, -1, -1, 4);
        promises.says("## Promise 37: row `int row(int d, int sort, int n)`: SHELF d gets a ROW of a SORT: 0. -1 (n "
            + "above 100); -14.");
        dues("row", new int[] {x.row(2, 0, 100), x.put(2, 99, 1), x.put(2, 100, 1), x.row(2, 2, 0), x.put(2, 0, 1)},
            0, 0, -13, 0, -13);
        dues("row", new int[] {x.row(8, 0, 1), x.row(-1, 0, 1), x.row(1, 3, 1), x.row(1, -1, 1), x.row(1, 0, 101),
            x.row(1, 0, -1), x.row(1, 3, -1)}, -1, -1, -1, -1, -1, -14, -1);
        Check.due("the row is as it was", x.element(1, 1), 4);
    }

    private static void putAndElement() {
        promises.says("## Promise 38: put `int put(int d, int i, int v)`: Element i of the ROW becomes v: 0. -1, "
            + "-11, -12, -13.");
        MeteorsAreProposals x = coast();
        dues("put", new int[] {x.put(0, 1, 200), x.put(8, 0, 0), x.put(-1, 0, 0), x.put(3, 0, 0), x.put(2, 0, 0),
            x.put(0, 2, 0), x.put(0, -1, 0)}, 0, -1, -1, -11, -12, -13, -13);
        promises.says("## Promise 39: element `long element(int d, int i) throws IllegalArgumentException, "
            + "IllegalStateException`: Element i of the ROW. IllegalArgumentException: no such SHELF; "
            + "IllegalStateException: no ROW, no such place.");
        Check.due("element 0", x.element(0, 0), 1);
        Check.due("element 1", x.element(0, 1), -56);
        Check.throwsOne("no such shelf", x, 8, 0, IllegalArgumentException.class);
        Check.throwsOne("no such shelf", x, -1, 0, IllegalArgumentException.class);
        Check.throwsOne("nothing", x, 3, 0, IllegalStateException.class);
        Check.throwsOne("a kind", x, 2, 0, IllegalStateException.class);
        Check.throwsOne("no such place", x, 0, 2, IllegalStateException.class);
        Check.throwsOne("no such place", x, 0, -1, IllegalStateException.class);
    }

    private static void copy() {
        promises.says("## Promise 40: copy `int copy(int d, int i, int e, int j, int n)`: n elements of the ROW in "
            + "SHELF d from i on come to that in SHELF e from j on: n. -1, -11 (either), -12 (no ROWS of one SORT), "
            + "-13 (n below 0, too).");
        MeteorsAreProposals x = coast();
        Check.row(x, 4, Check.BYTES, 5, 6, 7);
        dues("copy", new int[] {x.copy(0, 0, 4, 1, 2), x.copy(4, 0, 4, 1, 2), x.copy(0, 1, 4, 0, 1)}, 2, 2, 1);
        dues("copied", new int[] {(int) x.element(4, 0), (int) x.element(4, 1), (int) x.element(4, 2)}, 2, 5, 1);
        dues("copy", new int[] {x.copy(8, 0, 0, 0, 1), x.copy(0, 0, -1, 0, 1), x.copy(3, 0, 0, 0, 1),
            x.copy(0, 0, 3, 0, 1), x.copy(2, 0, 3, 0, 1), x.copy(2, 0, 0, 0, 1), x.copy(0, 0, 2, 0, 1),
            x.copy(0, 0, 1, 0, 1)}, -1, -1, -11, -11, -11, -12, -12, -12);
        dues("copy", new int[] {x.copy(0, 0, 4, 0, -1), x.copy(0, 0, 4, 0, 3), x.copy(4, 0, 0, 0, 3),
            x.copy(0, -1, 4, 0, 1), x.copy(0, 0, 4, -1, 1), x.copy(0, 1, 4, 0, 2), x.copy(0, 0, 4, 2, 2),
            x.copy(0, Integer.MAX_VALUE, 4, 0, 1)}, -13, -13, -13, -13, -13, -13, -13, -13);
    }

    private static void costAndToss() {
        promises.says("## Promise 41: cost `int cost(int d)`: COST of the one on SHELF d: METEOR 4; SLOW FIGURE "
            + "more; DARK 1; BALL twice a METEOR's; LONG a SLOW's and 3; SLATE a DARK's and FIGURE; TWIN 2 more; "
            + "KEPT half of a BALL's. -1, -11, -12 (a ROW).");
        promises.says("## Promise 42: toss `int toss(int d)`: The FAILURE of the one on SHELF d is thrown, and "
            + "caught: its FIGURE; of SLOW ones 100 more (LONG ones, too); of LONG ones 200 plus their COST, in "
            + "place of all that (FIGURE, too). -1, -11, -12 (a ROW); -15: DARK ones, SLATES, and any with FIGURE "
            + "0, have none.");
        MeteorsAreProposals x = coast();
        for (int kind = 0; kind < 8; kind++) {
            for (int figure = 0; figure < 10; figure++) {
                x.keep(5, 1, kind, figure);
                Check.due("cost of kind " + kind + ", figure " + figure, x.cost(5), Told.COST[kind][figure]);
                Check.due("toss of kind " + kind + ", figure " + figure, x.toss(5), Told.TOSS[kind][figure]);
            }
        }
        dues("cost", new int[] {x.cost(8), x.cost(-1), x.cost(3), x.cost(0)}, -1, -1, -11, -12);
        dues("toss", new int[] {x.toss(8), x.toss(-1), x.toss(3), x.toss(0)}, -1, -1, -11, -12);
    }
}
