import java.math.BigInteger;
import java.util.ArrayList;
import java.util.List;
import java.util.Set;
import java.util.TreeSet;

/** Each METEOR that there can be, wherever it begins, in each slope: held against the numbers of Told. */
public final class EveryMeteorTest {
    private static final int[] QUICK_BY_NEED = {9, 9, 6, 3, 0};
    /** By need and times, how many sets of that many steps have at least need of them. */
    private static final int[][] ENOUGH = new int[5][15];

    static {
        for (int times = 0; times < 15; times++) {
            for (int clear = 0; clear < 1 << times; clear++) {
                for (int need = 1; need <= 4 && need <= Integer.bitCount(clear); need++) {
                    ENOUGH[need][times]++;
                }
            }
        }
    }

    private EveryMeteorTest() {
    }

    public static void main(String[] args) {
        for (int kind = 0; kind < 8; kind++) {
            for (int figure = 0; figure < 10; figure++) {
                laws(kind, figure);
                comes(kind, figure);
                judge(kind, figure);
                scorched(kind, figure);
                for (int slope = 0; slope < 5; slope++) {
                    game(kind, figure, slope);
                    for (int column = 0; column < 16; column++) {
                        seen(kind, figure, column, slope);
                        roofs(kind, figure, column, slope);
                        curve(kind, figure, column, slope);
                        taken(kind, figure, column, slope);
                        augusts(kind, figure, column, slope);
                    }
                }
            }
        }
        for (int[] one : periods()) {
            for (int[] other : periods()) {
                together(one, other);
            }
        }
        for (int times = 0; times <= 14; times++) {
            for (int need = 1; need <= 4; need++) {
                clouds(times, need);
            }
        }
        Check.end();
    }

    private static MeteorsAreProposals fallen(int kind, int figure, int column, int slope, int night) {
        MeteorsAreProposals x = new MeteorsAreProposals();
        Check.due("5: number", Check.fall(x, kind, figure, column, slope, night), 0);
        return x;
    }

    private static void laws(int kind, int figure) {
        String name = " of kind " + kind + " figure " + figure;
        MeteorsAreProposals x = fallen(kind, figure, 3, 1, 17);
        int[] due = {kind, figure, 3, 1, 17, 9, Told.LASTS[kind][figure], Told.BRIGHT[kind][figure] + 10,
            Told.PERIOD[kind][figure], Told.HEAT[kind][figure]};
        MeteorsAreProposals y = Check.told("m" + kind + figure + "031179;");
        for (int what = 0; what < 10; what++) {
            Check.due("3: what " + what + name, x.meteor(0, what), due[what]);
            Check.due("3: what " + what + name + " by a text", y.meteor(0, what), due[what]);
        }
        Check.due("35: heat" + name, x.count(1), Told.HEAT[kind][figure]);
        Check.due("35: lasts" + name, x.count(2), Told.LASTS[kind][figure]);
        Check.due("29: heat" + name, x.mean(0), Told.HEAT[kind][figure]);
        Check.due("41: cost" + name, x.cost(7), Told.COST[kind][figure]);
        Check.due("42: toss" + name, x.toss(7), Told.TOSS[kind][figure]);
        Check.row(x, 0, Check.INTS, Told.LASTS[kind][figure], Told.BRIGHT[kind][figure]);
        int bits = 0;
        for (int other = 0; other < 8; other++) {
            boolean alike = Told.LASTS[kind][figure] == Told.LASTS[other][figure]
                && Told.BRIGHT[kind][figure] == Told.BRIGHT[other][figure];
            bits += alike ? 1 << other : 0;
        }
        Check.due("27: laws" + name, x.laws(0, figure, 0), bits);
        Check.due("27: laws" + name, x.laws(0, figure, 1), Integer.bitCount(bits));
    }

    private static void comes(int kind, int figure) {
        int period = Told.PERIOD[kind][figure];
        for (int night = 0; night <= 30; night++) {
            MeteorsAreProposals x = fallen(kind, figure, 3, 1, night);
            int next = night + (365 - night) / period * period;
            int due = -4;
            for (int v = 365; v >= 0; v--) {
                due = v >= night && (v - night) % period == 0 ? v : due;
                Check.due("21: from " + v + ", period " + period + ", night " + night, x.comes(0, v), due);
            }
            Check.due("21: the last one", x.comes(0, next), next);
        }
    }

    private static void judge(int kind, int figure) {
        int period = Told.PERIOD[kind][figure];
        for (int night = 0; night <= 30; night++) {
            MeteorsAreProposals x = fallen(kind, figure, 3, 1, night);
            int[] row = new int[100];
            for (int i = 0; i < 100; i++) {
                row[i] = i >= night && (i - night) % period == 0 ? 1 : 0;
            }
            Check.row(x, 0, Check.BYTES, row);
            Check.due("31: period " + period + ", night " + night, x.judge(0, 0), -4);
            x.put(0, night, 0);
            Check.due("31: period " + period + ", not in night " + night, x.judge(0, 0), night);
        }
    }

    /** Looker 2 says yes as quick as can be, then is as quick as told. */
    private static void scorched(int kind, int figure) {
        MeteorsAreProposals x = new MeteorsAreProposals();
        Check.fall(x, kind, figure, 3, 2, 8);
        for (int l = 0; l < 5; l++) {
            x.looks(l, l == 2 ? 3 : 15, l == 2 ? 9 : 0);
        }
        boolean said = kind != 2;
        Check.due("8: kind " + kind + " figure " + figure, x.run(8), said ? 1 : 0);
        for (int quick = 0; quick < 10; quick++) {
            x.looks(2, 0, quick);
            int due = said ? Math.max(0, Told.HEAT[kind][figure] - quick) : 0;
            Check.due("28: kind " + kind + " figure " + figure + " quick " + quick, x.scorched(2), due);
        }
    }

    /** Lookers on all kinds of roofs, quick and slow, some of them alike. */
    private static void taken(int kind, int figure, int column, int slope) {
        for (int turn = 0; turn < 16; turn++) {
            int[] roof = new int[5];
            int[] quick = new int[5];
            for (int l = 0; l < 5; l++) {
                roof[l] = (turn + column + l * (turn % 4)) % 16;
                quick[l] = (3 + turn * (l + 1) * 7 + l % 3) % 10;
            }
            takenBy(kind, figure, column, slope, roof, quick);
        }
    }

    private static void takenBy(int kind, int figure, int column, int slope, int[] roof, int[] quick) {
        String name = " of kind " + kind + " figure " + figure + " from " + column + " by slope " + slope;
        int night = (column + figure) % 31;
        int dear = (column + roof[4]) % 6 == 5 ? 9 : (column + roof[4]) % 6;
        MeteorsAreProposals x = fallen(kind, figure, column, slope, night);
        x.meant(0, dear);
        int taker = 9;
        int least = 99;
        int wed = 9;
        for (int l = 0; l < 5; l++) {
            x.looks(l, roof[l], quick[l]);
            int yes = Told.yes(Told.seen(kind, figure, column, slope, roof[l]), Told.NEED[quick[l]]);
            if (yes >= 0 && yes < least) {
                taker = l;
                least = yes;
            }
            if (yes >= 0 && (wed == 9 || l == dear || wed != dear && quick[l] > quick[wed])) {
                wed = l;
            }
        }
        Check.due("11: taker" + name, x.taker(0), taker == 9 ? -4 : taker);
        Check.row(x, 0, Check.SHORTS, taker);
        Check.due("30: it is so" + name, x.forged(0), -4);
        x.put(0, 0, taker == 9 ? 0 : 9);
        Check.due("30: it is not so" + name, x.forged(0), 0);
        int taken = taker == 9 ? 0 : 1;
        int mistake = taken == 1 && taker != dear ? 1 : 0;
        Check.due("15: taken" + name, x.august(0), taken);
        Check.due("15: mistakes" + name, x.august(1), mistake);
        for (int l = 0; l < 5; l++) {
            Check.due("18: wed" + name, x.wed(l), l == wed ? 0 : -4);
        }
        Check.due("8: run" + name, x.run(night), taken);
        Check.due("13: mistakes" + name, x.mistakes(), mistake);
        Check.due("14: waiting" + name, x.waiting(), taker == 9 ? 31 : 31 - (1 << taker));
        Check.due("35: said yes to" + name, x.count(5), taken);
        if (taker != 9) {
            Check.due("9: free" + name, x.free(taker), 0);
        }
        Check.row(x, 0, Check.BYTES, 'r', '0' + night / 10, '0' + night % 10, ';');
        Check.due("2: run" + name, x.sky(0), 1);
        Check.due("2: said yes to" + name, x.count(5), taken);
    }

    private static void augusts(int kind, int figure, int column, int slope) {
        MeteorsAreProposals x = fallen(kind, figure, column, slope, 0);
        int z = 1000003 * (kind + 8 * figure) - 7919 * (column + 16 * slope);
        int dear = (column + figure) % 5;
        x.meant(0, dear);
        int taken = 0;
        int right = 0;
        long seed = z;
        for (int n = 1; n <= 4; n++) {
            int taker = 9;
            int least = 99;
            for (int l = 0; l < 5; l++) {
                seed = seed * 1103515245L + 12345L & 0xffffffffL;
                int roof = (int) ((seed >> 16 & 0x7fff) % 16);
                seed = seed * 1103515245L + 12345L & 0xffffffffL;
                int need = Told.NEED[(int) ((seed >> 16 & 0x7fff) % 10)];
                int yes = Told.yes(Told.seen(kind, figure, column, slope, roof), need);
                if (yes >= 0 && yes < least) {
                    taker = l;
                    least = yes;
                }
            }
            taken += taker == 9 ? 0 : 1;
            right += taker == dear ? 1 : 0;
            Check.due("32: taken in " + n + " with " + z, x.augusts(n, z, 0), taken);
            Check.due("32: by whom it is for in " + n + " with " + z, x.augusts(n, z, 1), right);
        }
    }

    /** All pairs of PERIODS and all pairs of NIGHTS. */
    private static void together(int[] one, int[] other) {
        for (int from = 0; from <= 30; from += 4) {
            for (int otherFrom = 0; otherFrom <= 30; otherFrom += 4) {
                MeteorsAreProposals x = new MeteorsAreProposals();
                for (int m = 0; m < 8; m++) {
                    int night = Math.min(30, m < 4 ? from + m : otherFrom + m - 4);
                    Check.fall(x, m < 4 ? one[0] : other[0], m < 4 ? one[1] : other[1], 0, 0, night);
                }
                for (int m = 0; m < 4; m++) {
                    for (int n = 4; n < 8; n++) {
                        int due = first(x.meteor(m, 4), Told.PERIOD[one[0]][one[1]], x.meteor(n, 4),
                            Told.PERIOD[other[0]][other[1]]);
                        String name = "22: kinds and figures " + one[0] + one[1] + " " + other[0] + other[1];
                        Check.due(name, x.together(m, n), due);
                        Check.due(name + " the other way", x.together(n, m), due);
                    }
                }
            }
        }
    }

    /** A kind and a figure for each PERIOD that there is. */
    private static List<int[]> periods() {
        Set<Integer> had = new TreeSet<>();
        List<int[]> periods = new ArrayList<>();
        for (int kind = 7; kind >= 0; kind--) {
            for (int figure = 0; figure < 10; figure++) {
                if (had.add(Told.PERIOD[kind][figure])) {
                    periods.add(new int[] {kind, figure});
                }
            }
        }
        return periods;
    }

    private static int first(int night, int period, int otherNight, int otherPeriod) {
        int one = night;
        int other = otherNight;
        while (one != other && one <= 365 && other <= 365) {
            if (one < other) {
                one += period;
            } else {
                other += otherPeriod;
            }
        }
        return one == other && one <= 365 ? one : -4;
    }

    private static void seen(int kind, int figure, int column, int slope) {
        String name = " of kind " + kind + " figure " + figure + " from " + column + " by slope " + slope;
        MeteorsAreProposals x = fallen(kind, figure, column, slope, 0);
        for (int roof = 0; roof < 16; roof++) {
            int seen = Told.seen(kind, figure, column, slope, roof);
            for (int l = 1; l <= 4; l++) {
                x.looks(l, roof, QUICK_BY_NEED[l]);
                Check.due("10: seen" + name + " at " + roof, x.seen(l, 0, 0), seen);
                Check.due("10: yes" + name + " at " + roof + " need " + l, x.seen(l, 0, 1), Told.yes(seen, l));
                cloudsByTwo(x, l, Integer.bitCount(seen));
            }
            x.looks(0, roof, 3);
            int taker = Told.yes(seen, 1) >= 0 ? 1 : -4;
            Check.due("11: the quickest takes it" + name, x.taker(0), taker);
            Check.due("12: unseen" + name, x.unseen(), seen == 0 ? 1 : 0);
        }
    }

    /** Of the 2 to so many times ways those that have need clear times, counted one by one. */
    private static void cloudsByTwo(MeteorsAreProposals x, int need, int times) {
        int[] enough = ENOUGH[need];
        int above = enough[times];
        int below = 1 << times;
        while (above % 2 == 0 && below > 1) {
            above /= 2;
            below /= 2;
        }
        Check.due("23: above of need " + need + " of " + times, x.clouds(need, 0, 2, 0), above);
        Check.due("23: below of need " + need + " of " + times, x.clouds(need, 0, 2, 1), below);
    }

    private static void roofs(int kind, int figure, int column, int slope) {
        String name = " of kind " + kind + " figure " + figure + " from " + column + " by slope " + slope;
        MeteorsAreProposals x = fallen(kind, figure, column, slope, 0);
        for (int l = 1; l <= 4; l++) {
            x.looks(l, 0, QUICK_BY_NEED[l]);
        }
        x.looks(0, 0, 9);
        int[] best = {-1, -1, -1, -1, -1};
        for (int roof = 15; roof >= 0; roof--) {
            for (int l = 1; l <= 4; l++) {
                best[l] = Told.yes(Told.seen(kind, figure, column, slope, roof), l) >= 0 ? roof : best[l];
            }
        }
        for (int l = 1; l <= 4; l++) {
            Check.due("16: the roof" + name, x.bestRoof(l, 0), best[l] < 0 ? 0 : best[l]);
            Check.due("16: how many" + name, x.bestRoof(l, 1), best[l] < 0 ? 0 : 1);
        }
        Check.due("17: roofs" + name, x.roofs(), best[1] < 0 ? 0 : 1 << best[1]);
        for (int c = 0; c <= 11; c++) {
            int taken = 0;
            for (int l = 0; l < 5; l++) {
                int seen = Told.seen(kind, figure, column, slope, c + l);
                taken |= Told.yes(seen, l == 0 ? 1 : l) >= 0 ? 1 : 0;
            }
            Check.due("26: roofs from " + c + name, x.rowOfRoofs(c), taken);
        }
    }

    private static void curve(int kind, int figure, int column, int slope) {
        String name = " of kind " + kind + " figure " + figure + " from " + column + " by slope " + slope;
        MeteorsAreProposals x = fallen(kind, figure, column, slope, 0);
        int lasts = Told.LASTS[kind][figure];
        for (int length = 0; length <= lasts + 1; length++) {
            int[] row = new int[length];
            for (int step = 0; step < length; step++) {
                row[step] = Told.over(column, slope, step);
            }
            Check.row(x, 0, Check.BYTES, row);
            Check.due("20: goes so" + name + " for " + length, x.curve(0, 0), length <= lasts ? 1 : 0);
            int next = length < lasts ? Told.over(column, slope, length) : -4;
            Check.due("20: next" + name + " behind " + length, x.curve(0, 2), next);
        }
    }

    private static void game(int kind, int figure, int slope) {
        MeteorsAreProposals x = fallen(kind, figure, 9, slope, 0);
        for (int a = 0; a <= 5; a++) {
            for (int b = 0; b <= 5; b++) {
                int best = 0;
                int most = -1;
                for (int roof = a; roof <= a + 10; roof += 5) {
                    int fewest = 99;
                    for (int begin = b; begin <= b + 10; begin += 5) {
                        fewest = Math.min(fewest, Integer.bitCount(Told.seen(kind, figure, begin, slope, roof)));
                    }
                    best = fewest > most ? roof : best;
                    most = Math.max(most, fewest);
                }
                String name = " of kind " + kind + " figure " + figure + " slope " + slope + " a " + a + " b " + b;
                Check.due("25: steps" + name, x.game(0, a, b, 0), most);
                Check.due("25: roof" + name, x.game(0, a, b, 1), best);
            }
        }
    }

    /** A LONG one by 1 to column 15, where roof 15 sees it in its last steps. */
    private static void clouds(int times, int need) {
        MeteorsAreProposals x = fallen(4, 9, times, 3, 0);
        x.looks(3, 15, QUICK_BY_NEED[need]);
        Check.due("10: times", Integer.bitCount(x.seen(3, 0, 0)), times);
        for (int t = 2; t <= 20; t++) {
            BigInteger above = BigInteger.ZERO;
            BigInteger choices = BigInteger.ONE;
            for (int clear = 0; clear <= times; clear++) {
                if (clear >= need) {
                    above = above.add(choices.multiply(BigInteger.valueOf(t - 1).pow(clear)));
                }
                choices = choices.multiply(BigInteger.valueOf(times - clear)).divide(BigInteger.valueOf(clear + 1));
            }
            BigInteger below = BigInteger.valueOf(t).pow(times);
            BigInteger both = above.gcd(below);
            String name = need + " of " + times + " by " + t;
            Check.due("23: above " + name, x.clouds(3, 0, t, 0), above.divide(both).longValueExact());
            Check.due("23: below " + name, x.clouds(3, 0, t, 1), below.divide(both).longValueExact());
        }
    }
}
