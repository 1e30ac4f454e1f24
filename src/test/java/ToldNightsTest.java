/** Promises 30 to 35: a forged log, told nights, Augusts by seeds, the image, counts. */
public final class ToldNightsTest {
    private ToldNightsTest() {
    }

    public static void main(String[] args) {
        forged();
        judge();
        augusts();
        image();
        counts();
        Check.end();
    }

    private static void forged() {
        MeteorsAreProposals x = Check.told("m00032009;m20032009;m00122009;");
        Check.row(x, 0, Check.BYTES, 1, 9, 4);
        Check.due("30: all so", x.forged(0), -4);
        Check.row(x, 0, Check.SHORTS, 1, 9);
        Check.due("30: less is so, too", x.forged(0), -4);
        Check.row(x, 0, Check.INTS, 1, 0, 3);
        Check.due("30: the first", x.forged(0), 1);
        Check.row(x, 0, Check.BYTES, 1, 9, 4, 9);
        Check.due("30: no such meteor", x.forged(0), 3);
        Check.row(x, 0, Check.BYTES, -128, 9);
        Check.due("30: the least is not skipped", x.forged(0), 0);
        Check.row(x, 0, Check.BYTES, 1, -4);
        Check.due("30: nobody is 9", x.forged(0), 1);
        Check.row(x, 0, Check.BYTES);
        Check.due("30: empty", x.forged(0), -4);
        Check.due("30: shelf", x.forged(8), -1);
        Check.due("30: shelf", x.forged(-1), -1);
        Check.due("30: nothing", x.forged(1), -11);
        x.keep(1, 1, 0, 0);
        Check.due("30: a kind", x.forged(1), -12);
    }

    private static void judge() {
        // nights 1, 4, 7, ..; from 30 on each
        MeteorsAreProposals x = Check.told("m00002019;m70002309;");
        Check.row(x, 0, Check.BYTES, 0, 1, 0, 0, 1);
        Check.due("31: all so", x.judge(0, 0), -4);
        Check.due("31: the place in the row", x.judge(0, 1), 0);
        Check.due("31: from 3 on", x.judge(0, 3), -4);
        Check.row(x, 0, Check.SHORTS, -32768, 1, -32768, 1);
        Check.due("31: skipped", x.judge(0, 0), 3);
        Check.row(x, 0, Check.INTS, Integer.MIN_VALUE, 2);
        Check.due("31: both on 31", x.judge(0, 30), -4);
        int[] long365 = new int[100];
        for (int i = 0; i < 100; i++) {
            long365[i] = (365 + i) % 3 == 1 ? 2 : 1;
        }
        Check.row(x, 0, Check.BYTES, long365);
        Check.due("31: ever", x.judge(0, 365), -4);
        x.put(0, 99, 0);
        Check.due("31: ever", x.judge(0, 365), 99);
        Check.due("31: v", x.judge(0, 366), -1);
        Check.due("31: v", x.judge(0, -1), -1);
        Check.due("31: shelf", x.judge(8, 0), -1);
        Check.due("31: nothing", x.judge(1, 0), -11);
        Check.due("31: -1 first", x.judge(1, 366), -1);
        x.keep(1, 1, 0, 0);
        Check.due("31: a kind", x.judge(1, 0), -12);
        Check.row(x, 0, Check.BYTES);
        Check.due("31: empty", x.judge(0, 0), -4);
    }

    /** The draws told once more with longs, to see who takes one that all see who stand within 15 columns. */
    private static void augusts() {
        MeteorsAreProposals x = Check.told("m39072002;");
        int taken = 0;
        int right = 0;
        long z = 7;
        for (int time = 0; time < 20; time++) {
            int least = 99;
            int who = 9;
            for (int l = 0; l < 5; l++) {
                z = (z * 1103515245L + 12345L) & 0xffffffffL;
                long roof = (z & 0x7fffffffL) / 65536 % 16;
                z = (z * 1103515245L + 12345L) & 0xffffffffL;
                long quick = (z & 0x7fffffffL) / 65536 % 10;
                int step = 3 - (int) quick / 3;
                if (Math.abs(roof - 7) <= 6 && step < least) {
                    least = step;
                    who = l;
                }
            }
            taken += who == 9 ? 0 : 1;
            right += who == 2 ? 1 : 0;
            Check.due("32: taken", x.augusts(time + 1, 7, 0), taken);
            Check.due("32: by whom they are for", x.augusts(time + 1, 7, 1), right);
        }
        Check.that("32: some right, some not", right > 0 && right < taken);
        Check.due("32: nothing changed", x.count(4), 30);
        Check.due("32: nothing changed", x.count(3), 25);
        Check.due("32: n", x.augusts(0, 7, 0), -1);
        Check.due("32: n", x.augusts(21, 7, 0), -1);
        Check.due("32: what", x.augusts(1, 7, 2), -1);
        Check.due("32: what", x.augusts(1, 7, -1), -1);
        Check.that("32: any seed", x.augusts(20, Integer.MIN_VALUE, 0) >= 0);
        x.meant(0, 9);
        Check.due("32: for nobody", x.augusts(20, 7, 1), 0);
    }

    private static void image() {
        MeteorsAreProposals x = Check.told("m00032009;l4019;");
        Check.due("34: there is none", x.restore(), -3);
        Check.due("33: one", x.image(), 1);
        x.keep(2, 1, 1, 1);
        Check.text(x, 0, "m00002000;r00;l1152;");
        x.meant(0, 3);
        Check.due("34: two by now", x.count(0), 2);
        Check.due("34: one", x.restore(), 1);
        Check.due("34: meteors", x.count(0), 1);
        Check.due("34: for", x.meteor(0, 5), 9);
        Check.due("34: said", x.waiting(), 31);
        Check.due("34: roof", x.looker(1, 0), 3);
        Check.due("34: quick", x.looker(1, 1), 5);
        Check.due("34: told ahead of it", x.looker(4, 0), 1);
        Check.due("34: shelves stay", x.cost(2), 5);
        Check.due("34: shelves stay", x.element(0, 0), 'm');
        x.run(0);
        x.falls(2, 5, 2, 9);
        Check.due("34: again", x.restore(), 1);
        Check.due("34: again", x.waiting(), 31);
        x.run(0);
        Check.due("33: another", x.image(), 1);
        Check.due("34: 4 had it", x.free(4), 0);
        x.restore();
        Check.due("34: what was said comes back", x.looker(4, 2), 0);
        MeteorsAreProposals y = new MeteorsAreProposals();
        Check.due("33: of none", y.image(), 0);
        Check.text(y, 0, "m00032009;");
        Check.due("34: of none", y.restore(), 0);
        Check.due("34: of none", y.meteor(0, 0), -1);
    }

    private static void counts() {
        MeteorsAreProposals x = Check.told("m39032009;m49122009;m00082009;l0149;r00;");
        Check.due("35: meteors", x.count(0), 3);
        Check.due("35: heat", x.count(1), 18 + 6);
        Check.due("35: lasts", x.count(2), 5 + 14 + 3);
        Check.due("35: quick", x.count(3), 29);
        Check.due("35: roofs", x.count(4), 14 + 3 + 6 + 9 + 12);
        Check.due("35: said yes to", x.count(5), 0b111);
        x.free(x.taker(2));
        Check.due("35: said yes to", x.count(5), 0b011);
        Check.due("35: what", x.count(6), -1);
        Check.due("35: what", x.count(-1), -1);
    }
}
