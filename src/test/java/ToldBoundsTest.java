/** Promises 30 to 35 at the edges that the document names: rows empty and too long, seeds that wrap, the image. */
public final class ToldBoundsTest {
    private static final int[] LEAST = {-128, -32768, Integer.MIN_VALUE};

    private ToldBoundsTest() {
    }

    public static void main(String[] args) {
        forgedRows();
        forgedNumbers();
        judgeRows();
        judgeSkips();
        judgeNights();
        judgeEver();
        augustsTimes();
        augustsSeeds();
        augustsByWhomTheyAreFor();
        imageOfNone();
        imageOfAll();
        imageStays();
        shelvesStay();
        counts();
        Check.end();
    }

    private static void forgedRows() {
        // takers 0, 1, 2, 3, 4, nobody, 4, 0
        MeteorsAreProposals x = Check.told(
            "m00002009;m00032009;m00062009;m00092009;m00122009;m20002009;m50122009;m50002009;");
        int[] takers = {0, 1, 2, 3, 4, 9, 4, 0};
        for (int length = 0; length <= 8; length++) {
            int[] row = new int[length];
            System.arraycopy(takers, 0, row, 0, length);
            Check.row(x, 0, Check.BYTES, row);
            Check.due("30: the first " + length + " are so", x.forged(0), -4);
            for (int place = 0; place < length; place++) {
                x.put(0, place, takers[place] == 9 ? 0 : 9);
                Check.due("30: not so at " + place, x.forged(0), place);
                x.put(0, place, takers[place] + 1);
                Check.due("30: one more at " + place, x.forged(0), place);
                x.put(0, place, takers[place]);
            }
        }
        int[] nine = {0, 1, 2, 3, 4, 9, 4, 0, 9};
        Check.row(x, 0, Check.BYTES, nine);
        Check.due("30: no such meteor, not nobody", x.forged(0), 8);
        x.put(0, 8, -4);
        Check.due("30: no such meteor, whatever is told", x.forged(0), 8);
        int[] hundred = new int[100];
        System.arraycopy(nine, 0, hundred, 0, 8);
        Check.row(x, 0, Check.INTS, hundred);
        Check.due("30: a hundred numbers", x.forged(0), 8);
        for (int sort = 0; sort < 3; sort++) {
            MeteorsAreProposals none = new MeteorsAreProposals();
            Check.row(none, 0, sort);
            Check.due("30: an empty row of none", none.forged(0), -4);
            Check.row(none, 0, sort, 9);
            Check.due("30: a row of none", none.forged(0), 0);
        }
    }

    private static void forgedNumbers() {
        for (int sort = 0; sort < 3; sort++) {
            MeteorsAreProposals x = Check.told("m00002009;m20002009;");
            Check.row(x, 0, sort, 0, LEAST[sort]);
            Check.due("30: the least number is not skipped", x.forged(0), 1);
            x.put(0, 1, -4);
            Check.due("30: nobody is not told by -4", x.forged(0), 1);
            x.put(0, 1, 9);
            Check.due("30: nobody is 9", x.forged(0), -4);
            x.put(0, 0, LEAST[sort]);
            Check.due("30: the least number is not skipped", x.forged(0), 0);
        }
        MeteorsAreProposals y = Check.told("m00032009;");
        Check.row(y, 0, Check.BYTES, 257);
        Check.due("30: 1 in its lowest bits", y.forged(0), -4);
        Check.row(y, 0, Check.SHORTS, 257);
        Check.due("30: 257 in a greater sort", y.forged(0), 0);
        y.put(0, 0, 65537);
        Check.due("30: 1 in its lowest bits", y.forged(0), -4);
        y.run(0);
        Check.due("30: whatever they have said", y.forged(0), -4);
        y.looks(1, 6, 9);
        Check.due("30: as they look now", y.forged(0), 0);
        // of several the least, at the edge 15
        MeteorsAreProposals edge = Check.told("m09154009;l2139;l4139;");
        Check.row(edge, 0, Check.BYTES, 2);
        Check.due("30: of several the least", edge.forged(0), -4);
        edge.put(0, 0, 4);
        Check.due("30: not the greatest", edge.forged(0), 0);
    }

    private static void judgeRows() {
        MeteorsAreProposals none = new MeteorsAreProposals();
        MeteorsAreProposals x = Check.told("m70002009;".repeat(8));
        for (int sort = 0; sort < 3; sort++) {
            Check.row(none, 0, sort);
            Check.due("31: an empty row", none.judge(0, 0), -4);
            Check.due("31: an empty row", none.judge(0, 365), -4);
            none.row(0, sort, 100);
            Check.due("31: a hundred nights of none", none.judge(0, 365), -4);
            none.put(0, 99, 1);
            Check.due("31: the last of a hundred", none.judge(0, 365), 99);
            none.put(0, 0, 1);
            Check.due("31: the first of a hundred", none.judge(0, 365), 0);
            Check.row(x, 0, sort, 8, 8, 8, 7);
            Check.due("31: all eight, then not", x.judge(0, 30), 3);
            x.put(0, 3, 9);
            Check.due("31: not nine", x.judge(0, 365), 3);
            x.put(0, 3, 8);
            Check.due("31: all so", x.judge(0, 365), -4);
        }
    }

    private static void judgeSkips() {
        for (int sort = 0; sort < 3; sort++) {
            MeteorsAreProposals x = Check.told("m70002009;");
            Check.row(x, 0, sort, LEAST[sort], 0);
            Check.due("31: the first is skipped", x.judge(0, 0), 1);
            Check.row(x, 0, sort, 1, LEAST[sort], 1, 2);
            Check.due("31: one between is skipped", x.judge(0, 0), 3);
            Check.row(x, 0, sort, 1, LEAST[sort]);
            Check.due("31: the last is skipped", x.judge(0, 0), -4);
            Check.row(x, 0, sort, LEAST[sort], LEAST[sort]);
            Check.due("31: all are skipped", x.judge(0, 0), -4);
            Check.row(x, 0, sort, 1, LEAST[sort] + 1);
            Check.due("31: one above the least is not", x.judge(0, 0), 1);
            for (int less = 0; less < sort; less++) {
                Check.row(x, 0, sort, 1, LEAST[less]);
                Check.due("31: the least of a lesser sort is not", x.judge(0, 0), 1);
            }
        }
        MeteorsAreProposals y = Check.told("m70002009;");
        Check.row(y, 0, Check.BYTES, 128, 257);
        Check.due("31: in their lowest bits", y.judge(0, 0), -4);
        Check.row(y, 0, Check.SHORTS, 32768, 65537);
        Check.due("31: in their lowest bits", y.judge(0, 0), -4);
        Check.row(y, 0, Check.SHORTS, 128, 1);
        Check.due("31: not in a greater sort", y.judge(0, 0), 0);
    }

    private static void judgeNights() {
        // on 5, 8, 11, ..: ahead of its NIGHT it is not there, though by 3 it would be
        MeteorsAreProposals x = Check.told("m00002059;");
        Check.row(x, 0, Check.BYTES, 0, 0, 0, 0, 0, 1, 0, 0, 1);
        Check.due("31: from 0 on", x.judge(0, 0), -4);
        Check.row(x, 0, Check.BYTES, 0, 0, 1);
        for (int v = 0; v <= 365; v++) {
            int due = v % 3 == 0 ? (v < 3 ? 2 : -4) : v % 3 == 1 ? (v < 4 ? 2 : 1) : (v < 5 ? 2 : 0);
            Check.due("31: from " + v, x.judge(0, v), due);
        }
        Check.due("31: below", x.judge(0, -1), -1);
        Check.due("31: above", x.judge(0, 366), -1);
        Check.due("31: far above", x.judge(0, Integer.MAX_VALUE), -1);
        Check.due("31: far below", x.judge(0, Integer.MIN_VALUE), -1);
    }

    /** Told nights may go on behind the year. */
    private static void judgeEver() {
        for (int kind = 0; kind < 8; kind++) {
            for (int figure = 0; figure < 10; figure++) {
                MeteorsAreProposals x = new MeteorsAreProposals();
                Check.fall(x, kind, figure, 3, 2, 30);
                int[] row = new int[100];
                for (int i = 0; i < 100; i++) {
                    row[i] = (365 + i - 30) % Told.PERIOD[kind][figure] == 0 ? 1 : 0;
                }
                Check.row(x, 0, Check.BYTES, row);
                Check.due("31: nights 365 to 464", x.judge(0, 365), -4);
                x.put(0, 99, 1 - row[99]);
                Check.due("31: night 464", x.judge(0, 365), 99);
            }
        }
    }

    /** Draws told once more with longs; all see a METEOR over 7 who stand no more than BRIGHT off it. */
    private static int[] drawn(int n, long z, int bright, int lasts, int dear) {
        long seed = z & 0xffffffffL;
        int taken = 0;
        int right = 0;
        for (int time = 0; time < n; time++) {
            int who = 9;
            int least = lasts;
            for (int l = 0; l < 5; l++) {
                seed = (seed * 1103515245L + 12345L) % 4294967296L;
                long roof = seed % 2147483648L / 65536 % 16;
                seed = (seed * 1103515245L + 12345L) % 4294967296L;
                int need = Told.NEED[(int) (seed % 2147483648L / 65536 % 10)];
                if (Math.abs(roof - 7) <= bright && need - 1 < least) {
                    least = need - 1;
                    who = l;
                }
            }
            taken += who == 9 ? 0 : 1;
            right += who == dear ? 1 : 0;
        }
        return new int[] {taken, right};
    }

    private static void augustsTimes() {
        MeteorsAreProposals x = Check.told("m00072001;");
        int before = 0;
        for (int n = 1; n <= 20; n++) {
            int[] due = drawn(n, 4711, 2, 3, 1);
            Check.due("32: " + n + " times", x.augusts(n, 4711, 0), due[0]);
            Check.due("32: " + n + " times, by 1", x.augusts(n, 4711, 1), due[1]);
            Check.that("32: more times, no less", due[0] >= before);
            before = due[0];
        }
        Check.that("32: some are taken", before > 0 && before < 20);
        int[] no = {Integer.MIN_VALUE, -1, 0, 21, 22, Integer.MAX_VALUE};
        for (int n : no) {
            Check.due("32: n " + n, x.augusts(n, 4711, 0), -1);
            Check.due("32: n " + n, x.augusts(n, 4711, 1), -1);
        }
        Check.due("32: of none", new MeteorsAreProposals().augusts(20, 4711, 0), 0);
        Check.due("32: of none", new MeteorsAreProposals().augusts(20, 4711, 1), 0);
        Check.due("32: of a dark one", Check.told("m29072009;").augusts(20, 4711, 0), 0);
        // BRIGHT 12 over 7 in one step, eight times: in each August with a NEED of 1 somewhere, all eight
        MeteorsAreProposals eight = Check.told("m79072009;".repeat(8));
        for (int n = 1; n <= 20; n++) {
            Check.due("32: eight each, " + n + " times", eight.augusts(n, 99, 0), 8 * drawn(n, 99, 12, 1, 9)[0]);
        }
        Check.that("32: more than one August", eight.augusts(20, 99, 0) > 8);
    }

    private static void augustsSeeds() {
        MeteorsAreProposals x = Check.told("m00072003;");
        int[] seeds = {Integer.MIN_VALUE, Integer.MIN_VALUE + 1, -2147471303, -65536, -12345, -1, 0, 1, 2, 65535, 65536,
            1103515245, -1103515245, 0x7fff0000, 0x40000000, Integer.MAX_VALUE - 1, Integer.MAX_VALUE};
        for (int z : seeds) {
            int[] due = drawn(20, z, 2, 3, 3);
            Check.due("32: seed " + z, x.augusts(20, z, 0), due[0]);
            Check.due("32: seed " + z, x.augusts(20, z, 1), due[1]);
            due = drawn(1, z, 2, 3, 3);
            Check.due("32: seed " + z + " once", x.augusts(1, z, 0), due[0]);
        }
        int[] taken = {0, 0};
        for (int z = 0; z < 200; z++) {
            taken[drawn(1, z * 10000019, 2, 3, 3)[0]]++;
            Check.due("32: once with " + z, x.augusts(1, z * 10000019, 0), drawn(1, z * 10000019, 2, 3, 3)[0]);
        }
        Check.that("32: with some seeds it is taken, with others it is not", taken[0] > 20 && taken[1] > 20);
        Check.due("32: a seed is not kept", x.augusts(1, 5, 0), x.augusts(1, 5, 0));
        Check.due("32: roofs stay", x.count(4), 30);
        Check.due("32: quick stays", x.count(3), 25);
        Check.due("32: nobody said yes", x.waiting(), 31);
    }

    private static void augustsByWhomTheyAreFor() {
        int all = 0;
        MeteorsAreProposals x = Check.told("m39072009;");
        for (int l = 0; l < 5; l++) {
            x.meant(0, l);
            Check.due("32: for " + l, x.augusts(20, 31, 1), drawn(20, 31, 6, 5, l)[1]);
            all += x.augusts(20, 31, 1);
        }
        Check.due("32: of all of them together", x.augusts(20, 31, 0), all);
        x.meant(0, 9);
        Check.due("32: for nobody, by none of those", x.augusts(20, 31, 1), 0);
        x.run(0);
        Check.due("32: whatever they have said", x.augusts(20, 31, 0), all);
    }

    private static void imageOfNone() {
        MeteorsAreProposals x = new MeteorsAreProposals();
        Check.due("34: there is none", x.restore(), -3);
        Check.due("34: there is still none", x.restore(), -3);
        Check.due("33: of no meteors", x.image(), 0);
        Check.due("34: of no meteors", x.restore(), 0);
        for (int m = 0; m < 8; m++) {
            Check.fall(x, m, 1, 2, 3, 4);
        }
        x.looks(4, 2, 9);
        x.run(4);
        Check.due("34: of no meteors", x.restore(), 0);
        Check.due("34: none", x.count(0), 0);
        Check.due("34: none", x.meteor(0, 0), -1);
        Check.due("34: lookers as at first", x.looker(4, 0), 12);
        Check.due("34: lookers as at first", x.looker(4, 1), 5);
        Check.due("34: lookers as at first", x.waiting(), 31);
        Check.due("34: none unseen", x.unseen(), 0);
        Check.due("34: no heat", x.count(1), 0);
        Check.due("34: the next one is the first", Check.fall(x, 0, 1, 2, 3, 4), 0);
    }

    private static void imageOfAll() {
        MeteorsAreProposals x = Check.told(
            "m01004000;m12013011;m23022302;m34031293;m45040304;m56050019;m67064020;m78073041;");
        for (int l = 0; l < 5; l++) {
            x.looks(l, l + 1, 9 - l);
        }
        x.run(0);
        x.run(2);
        Check.due("33: eight", x.image(), 8);
        int[][] lookers = new int[5][3];
        int[][] meteors = new int[8][10];
        for (int l = 0; l < 5; l++) {
            for (int what = 0; what < 3; what++) {
                lookers[l][what] = x.looker(l, what);
            }
        }
        for (int m = 0; m < 8; m++) {
            for (int what = 0; what < 10; what++) {
                meteors[m][what] = x.meteor(m, what);
            }
            x.meant(m, (meteors[m][5] + 1) % 5);
        }
        for (int l = 0; l < 5; l++) {
            x.free(l);
            x.looks(l, 15, 0);
        }
        Check.due("34: eight", x.restore(), 8);
        for (int l = 0; l < 5; l++) {
            for (int what = 0; what < 3; what++) {
                Check.due("34: looker " + l + " what " + what, x.looker(l, what), lookers[l][what]);
            }
        }
        for (int m = 0; m < 8; m++) {
            for (int what = 0; what < 10; what++) {
                Check.due("34: meteor " + m + " what " + what, x.meteor(m, what), meteors[m][what]);
            }
        }
        Check.that("34: some had said yes", x.count(5) != 0);
        Check.due("34: full, no room", Check.fall(x, 0, 0, 0, 0, 0), -2);
    }

    /** What comes behind an image does not change it, and to restore it does not use it up. */
    private static void imageStays() {
        MeteorsAreProposals x = Check.told("m00032001;");
        x.image();
        for (int time = 0; time < 3; time++) {
            Check.fall(x, 4, 9, 15, 0, 30);
            x.meant(0, 4);
            x.looks(2, 15, 0);
            x.run(0);
            Check.due("34: one meteor", x.restore(), 1);
            Check.due("34: for 1", x.meteor(0, 5), 1);
            Check.due("34: roof", x.looker(2, 0), 6);
            Check.due("34: quick", x.looker(2, 1), 5);
            Check.due("34: nobody said yes", x.waiting(), 31);
        }
        // a later image takes the place of it
        x.run(0);
        Check.fall(x, 4, 9, 15, 0, 30);
        Check.due("33: two", x.image(), 2);
        x.free(1);
        x.restore();
        Check.due("34: she has said yes then", x.looker(1, 2), 0);
        Check.due("34: two", x.count(0), 2);
        // restored twice in a row, and restored then taken
        Check.due("34: again", x.restore(), 2);
        Check.due("33: taken of what is restored", x.image(), 2);
        Check.due("34: the same", x.restore(), 2);
        Check.due("34: the same", x.looker(1, 2), 0);
    }

    private static void shelvesStay() {
        MeteorsAreProposals x = new MeteorsAreProposals();
        x.keep(0, 1, 4, 9);
        Check.row(x, 1, Check.SHORTS, 1, 2);
        x.keep(2, 1, 1, 1);
        x.image();
        x.keep(0, 0, 0, 0);
        x.put(1, 0, 7);
        Check.row(x, 2, Check.BYTES, 5);
        x.keep(3, 1, 3, 3);
        Check.due("34: none", x.restore(), 0);
        Check.due("34: nothing is held", x.cost(0), -11);
        Check.due("34: what was put", x.element(1, 0), 7);
        Check.due("34: the row", x.element(2, 0), 5);
        Check.due("34: the kind", x.cost(3), 8);
        // an image is not undone by one, either
        x.falls(3, 0, 0, 0);
        Check.due("34: restored", x.restore(), 0);
        Check.due("34: and again", x.restore(), 0);
    }

    private static void counts() {
        MeteorsAreProposals x = new MeteorsAreProposals();
        int heat = 0;
        int lasts = 0;
        for (int m = 0; m < 8; m++) {
            heat += Told.HEAT[m][9];
            lasts += Told.LASTS[m][9];
            Check.fall(x, m, 9, 2 * m, 2, 0);
            Check.due("35: meteors", x.count(0), m + 1);
            Check.due("35: heat", x.count(1), heat);
            Check.due("35: lasts", x.count(2), lasts);
        }
        for (int l = 0; l < 5; l++) {
            x.looks(l, 15, 9);
        }
        Check.due("35: the most quick", x.count(3), 45);
        Check.due("35: the most roofs", x.count(4), 75);
        for (int l = 0; l < 5; l++) {
            x.looks(l, 0, 0);
        }
        Check.due("35: the least quick", x.count(3), 0);
        Check.due("35: the least roofs", x.count(4), 0);
        MeteorsAreProposals y = Check.told(
            "m00002009;m20032009;m00032009;m00062009;m00092009;m20122009;m20122009;m00122009;");
        Check.due("35: nobody", y.count(5), 0);
        y.run(0);
        Check.due("35: the first and the last", y.count(5), 0b10011101);
        y.free(0);
        Check.due("35: no more the first", y.count(5), 0b10011100);
        MeteorsAreProposals most = Check.told("m39002009;".repeat(8));
        Check.due("35: the most heat", most.count(1), 144);
        MeteorsAreProposals longest = Check.told("m49002009;".repeat(8));
        Check.due("35: the most lasts", longest.count(2), 112);
        int[] others = {Integer.MIN_VALUE, -1, 6, 7, Integer.MAX_VALUE};
        for (int what : others) {
            Check.due("35: what " + what, y.count(what), -1);
        }
    }
}
