/** Promises 36 to 42 at the edges that the document names: shelves, rows empty and full, bits that are cut off. */
public final class ShelfBoundsTest {
    private static final int[] LEAST = {-128, -32768, Integer.MIN_VALUE};
    private static final int[] GREATEST = {127, 32767, Integer.MAX_VALUE};

    private ShelfBoundsTest() {
    }

    public static void main(String[] args) {
        keepOnEachShelf();
        keepNothing();
        keepBounds();
        rowLengths();
        rowSorts();
        rowZeros();
        putBits();
        putPlaces();
        elementPlaces();
        copyLengths();
        copyWithinOne();
        copyEmpty();
        copyBits();
        costAndToss();
        Check.end();
    }

    private static void keepOnEachShelf() {
        MeteorsAreProposals x = new MeteorsAreProposals();
        for (int d = 0; d < 8; d++) {
            Check.due("36: nothing at first", x.cost(d), -11);
        }
        for (int d = 0; d < 8; d++) {
            Check.due("36: shelf " + d, x.keep(d, 1, 4, d + 2), 0);
        }
        for (int d = 0; d < 8; d++) {
            Check.due("36: each its own", x.toss(d), 207 + d + 2);
            Check.due("36: a row in its place", x.row(d, d % 3, d), 0);
        }
        for (int d = 0; d < 8; d++) {
            Check.due("36: the last place of its own", x.put(d, d - 1, d), d == 0 ? -13 : 0);
            Check.due("36: none behind it", x.put(d, d, d), -13);
        }
        for (int d = 1; d < 8; d++) {
            Check.due("36: each its own numbers", x.element(d, d - 1), d);
        }
    }

    private static void keepNothing() {
        MeteorsAreProposals x = new MeteorsAreProposals();
        int[] others = {Integer.MIN_VALUE, -1, 0, 8, 10, Integer.MAX_VALUE};
        for (int k : others) {
            for (int figure : others) {
                x.keep(3, 1, 1, 1);
                Check.due("36: nothing, " + k + " and " + figure + " do not matter", x.keep(3, 0, k, figure), 0);
                Check.due("36: nothing", x.cost(3), -11);
                x.row(3, 2, 5);
                Check.due("36: nothing in place of a row", x.keep(3, 0, k, figure), 0);
                Check.due("36: nothing", x.put(3, 0, 0), -11);
            }
        }
        Check.due("36: nothing in place of nothing", x.keep(3, 0, 0, 0), 0);
        Check.due("36: nothing", x.toss(3), -11);
    }

    private static void keepBounds() {
        MeteorsAreProposals x = new MeteorsAreProposals();
        Check.due("36: the least of both", x.keep(0, 1, 0, 0), 0);
        Check.due("36: the greatest of both", x.keep(7, 1, 7, 9), 0);
        Check.due("36: it is a KEPT one", x.toss(7), 9);
        int[] noShelf = {Integer.MIN_VALUE, -1, 8, Integer.MAX_VALUE};
        for (int d : noShelf) {
            Check.due("36: no shelf", x.keep(d, 0, 0, 0), -1);
            Check.due("36: no shelf", x.keep(d, 1, 0, 0), -1);
            Check.due("36: no what", x.keep(7, d == 8 ? 2 : d, 1, 1), -1);
            Check.due("36: no kind", x.keep(7, 1, d, 1), -1);
            Check.due("36: no figure", x.keep(7, 1, 1, d == 8 ? 10 : d), -1);
        }
        Check.due("36: it stays", x.cost(7), 4);
        Check.due("36: it stays", x.toss(7), 9);
    }

    private static void rowLengths() {
        MeteorsAreProposals x = new MeteorsAreProposals();
        for (int n = 0; n <= 100; n++) {
            Check.due("37: " + n + " elements", x.row(n % 8, n % 3, n), 0);
            Check.due("37: the last of " + n, x.put(n % 8, n - 1, 1), n == 0 ? -13 : 0);
            Check.due("37: none behind " + n, x.put(n % 8, n, 1), -13);
        }
        x.row(0, 2, 7);
        x.put(0, 6, 6);
        Check.due("37: too many", x.row(0, 2, 101), -1);
        Check.due("37: far too many", x.row(0, 2, Integer.MAX_VALUE), -1);
        Check.due("37: below 0", x.row(0, 2, -1), -14);
        Check.due("37: far below 0", x.row(0, 2, Integer.MIN_VALUE), -14);
        Check.due("37: no sort ahead of a size below 0", x.row(0, 3, -1), -1);
        Check.due("37: no sort ahead of a size below 0", x.row(0, -1, -1), -1);
        Check.due("37: no shelf ahead of a size below 0", x.row(8, 2, -1), -1);
        Check.due("37: the row stays", x.element(0, 6), 6);
        Check.due("37: no longer", x.put(0, 7, 0), -13);
    }

    private static void rowSorts() {
        MeteorsAreProposals x = new MeteorsAreProposals();
        for (int sort = 0; sort < 3; sort++) {
            x.row(5, sort, 1);
            x.put(5, 0, 0x12349876);
            Check.due("37: sort " + sort, x.element(5, 0), sort == 0 ? 0x76 : sort == 1 ? (short) 0x9876 : 0x12349876);
        }
        int[] no = {Integer.MIN_VALUE, -1, 3, Integer.MAX_VALUE};
        for (int sort : no) {
            Check.due("37: no sort " + sort, x.row(5, sort, 1), -1);
            Check.due("37: no shelf", x.row(sort == 3 ? 8 : sort, 0, 1), -1);
        }
        Check.due("37: the row stays", x.element(5, 0), 0x12349876);
    }

    private static void rowZeros() {
        for (int sort = 0; sort < 3; sort++) {
            MeteorsAreProposals x = new MeteorsAreProposals();
            x.row(2, sort, 100);
            for (int i = 0; i < 100; i++) {
                x.put(2, i, i + 1);
            }
            x.row(2, sort, 50);
            x.row(2, sort, 100);
            for (int i = 0; i < 100; i++) {
                Check.due("37: 0 at first", x.element(2, i), 0);
            }
        }
        MeteorsAreProposals y = new MeteorsAreProposals();
        Check.row(y, 0, Check.INTS, 7, 7);
        y.keep(0, 1, 0, 0);
        y.row(0, Check.INTS, 2);
        Check.due("37: 0 at first behind a kind", y.element(0, 1), 0);
        y.put(0, 1, 7);
        y.keep(0, 0, 0, 0);
        y.row(0, Check.BYTES, 2);
        Check.due("37: 0 at first behind nothing", y.element(0, 1), 0);
    }

    private static void putBits() {
        MeteorsAreProposals x = new MeteorsAreProposals();
        int[] numbers = {0, 1, -1, 127, 128, 255, 256, 257, -128, -129, -256, 32767, 32768, 65535, 65536, -32768,
            -32769, -65536, Integer.MAX_VALUE, Integer.MIN_VALUE, 0x12345678, 0x89abcdef};
        int[] bytes = {0, 1, -1, 127, -128, -1, 0, 1, -128, 127, 0, -1, 0, -1, 0, 0, -1, 0, -1, 0, 0x78, -17};
        int[] shorts = {0, 1, -1, 127, 128, 255, 256, 257, -128, -129, -256, 32767, -32768, -1, 0, -32768, 32767, 0, -1,
            0, 0x5678, -12817};
        for (int i = 0; i < numbers.length; i++) {
            int[] due = {bytes[i], shorts[i], numbers[i]};
            for (int sort = 0; sort < 3; sort++) {
                x.row(sort, sort, 3);
                Check.due("38: " + numbers[i], x.put(sort, 1, numbers[i]), 0);
                Check.due("38: " + numbers[i] + " in sort " + sort, x.element(sort, 1), due[sort]);
                Check.due("38: the one ahead of it stays", x.element(sort, 0), 0);
                Check.due("38: the one behind it stays", x.element(sort, 2), 0);
            }
        }
    }

    private static void putPlaces() {
        MeteorsAreProposals x = new MeteorsAreProposals();
        x.row(6, Check.BYTES, 100);
        Check.due("38: the first", x.put(6, 0, 1), 0);
        Check.due("38: the last", x.put(6, 99, 2), 0);
        int[] no = {Integer.MIN_VALUE, -1, 100, 101, Integer.MAX_VALUE};
        for (int i : no) {
            Check.due("38: place " + i, x.put(6, i, 3), -13);
            Check.throwsOne("39: place " + i, x, 6, i, IllegalStateException.class);
        }
        Check.due("39: the first", x.element(6, 0), 1);
        Check.due("39: the last", x.element(6, 99), 2);
        x.row(6, Check.BYTES, 0);
        Check.due("38: no place in an empty row", x.put(6, 0, 1), -13);
        Check.throwsOne("39: no place in an empty row", x, 6, 0, IllegalStateException.class);
        Check.due("38: nothing ahead of no place", x.put(5, -1, 1), -11);
        x.keep(5, 1, 0, 0);
        Check.due("38: a kind ahead of no place", x.put(5, -1, 1), -12);
        Check.due("38: no shelf ahead of no place", x.put(8, -1, 1), -1);
    }

    private static void elementPlaces() {
        for (int sort = 0; sort < 3; sort++) {
            MeteorsAreProposals x = new MeteorsAreProposals();
            Check.row(x, 7, sort, LEAST[sort], GREATEST[sort], -1);
            Check.due("39: the least", x.element(7, 0), LEAST[sort]);
            Check.due("39: the greatest", x.element(7, 1), GREATEST[sort]);
            Check.due("39: below 0", x.element(7, 2), -1);
            int[] noShelf = {Integer.MIN_VALUE, -1, 8, Integer.MAX_VALUE};
            int[] places = {-1, 0, 3};
            for (int d : noShelf) {
                for (int i : places) {
                    Check.throwsOne("39: shelf " + d, x, d, i, IllegalArgumentException.class);
                }
            }
            x.keep(0, 1, 0, 0);
            for (int i : places) {
                Check.throwsOne("39: a kind", x, 0, i, IllegalStateException.class);
                Check.throwsOne("39: nothing", x, 1, i, IllegalStateException.class);
            }
            Check.throwsOne("39: behind the end", x, 7, 3, IllegalStateException.class);
            Check.throwsOne("39: ahead of the first", x, 7, -1, IllegalStateException.class);
            Check.due("39: it stays", x.element(7, 2), -1);
        }
    }

    private static void copyLengths() {
        for (int sort = 0; sort < 3; sort++) {
            MeteorsAreProposals x = new MeteorsAreProposals();
            x.row(0, sort, 100);
            x.row(1, sort, 100);
            for (int i = 0; i < 100; i++) {
                x.put(0, i, i + 1);
            }
            Check.due("40: a hundred", x.copy(0, 0, 1, 0, 100), 100);
            for (int i = 0; i < 100; i++) {
                Check.due("40: each", x.element(1, i), i + 1);
            }
            Check.due("40: one too many", x.copy(0, 0, 1, 0, 101), -13);
            Check.due("40: one too many from 1 on", x.copy(0, 1, 1, 0, 100), -13);
            Check.due("40: one too many to 1 on", x.copy(0, 0, 1, 1, 100), -13);
            Check.due("40: the last to the first", x.copy(0, 99, 1, 0, 1), 1);
            Check.due("40: the first to the last", x.copy(0, 0, 1, 99, 1), 1);
            Check.due("40: it came", x.element(1, 0), 100);
            Check.due("40: it came", x.element(1, 99), 1);
            Check.due("40: the next stays", x.element(1, 1), 2);
            Check.due("40: the one ahead stays", x.element(1, 98), 99);
            Check.due("40: where it comes from it stays", x.element(0, 99), 100);
            Check.due("40: behind the end", x.copy(0, 100, 1, 0, 1), -13);
            Check.due("40: to behind the end", x.copy(0, 0, 1, 100, 1), -13);
        }
    }

    private static void copyWithinOne() {
        for (int n = 0; n <= 6; n++) {
            for (int i = 0; i + n <= 6; i++) {
                for (int j = 0; j + n <= 6; j++) {
                    MeteorsAreProposals x = new MeteorsAreProposals();
                    Check.row(x, 4, Check.INTS, 10, 11, 12, 13, 14, 15);
                    Check.due("40: " + n + " from " + i + " to " + j, x.copy(4, i, 4, j, n), n);
                    for (int k = 0; k < 6; k++) {
                        int due = k >= j && k < j + n ? 10 + i + k - j : 10 + k;
                        Check.due("40: place " + k + " of " + n + " from " + i + " to " + j, x.element(4, k), due);
                    }
                }
            }
        }
    }

    private static void copyEmpty() {
        MeteorsAreProposals x = new MeteorsAreProposals();
        x.row(0, Check.BYTES, 0);
        x.row(1, Check.BYTES, 3);
        Check.due("40: none of none", x.copy(0, 0, 0, 0, 0), 0);
        Check.due("40: none of three", x.copy(1, 0, 0, 0, 0), 0);
        Check.due("40: none to three", x.copy(0, 0, 1, 2, 0), 0);
        Check.due("40: one of none", x.copy(0, 0, 1, 0, 1), -13);
        Check.due("40: one to none", x.copy(1, 0, 0, 0, 1), -13);
        Check.due("40: n below 0", x.copy(1, 1, 1, 1, -1), -13);
        Check.due("40: n far below 0", x.copy(1, 1, 1, 1, Integer.MIN_VALUE), -13);
        Check.due("40: a sum that wraps around", x.copy(1, 1, 1, 0, Integer.MAX_VALUE), -13);
        Check.due("40: a sum that wraps around", x.copy(1, 0, 1, 1, Integer.MAX_VALUE), -13);
        Check.due("40: a sum that wraps around", x.copy(1, Integer.MAX_VALUE, 1, 0, 1), -13);
        Check.due("40: a sum that wraps around", x.copy(1, 0, 1, Integer.MAX_VALUE, 1), -13);
        Check.due("40: a sum that wraps to 0", x.copy(1, Integer.MIN_VALUE, 1, 0, Integer.MIN_VALUE), -13);
    }

    private static void copyBits() {
        for (int sort = 0; sort < 3; sort++) {
            MeteorsAreProposals x = new MeteorsAreProposals();
            Check.row(x, 0, sort, LEAST[sort], GREATEST[sort]);
            x.row(7, sort, 2);
            Check.due("40: both", x.copy(0, 0, 7, 0, 2), 2);
            Check.due("40: the least", x.element(7, 0), LEAST[sort]);
            Check.due("40: the greatest", x.element(7, 1), GREATEST[sort]);
            for (int other = 0; other < 3; other++) {
                x.row(6, other, 2);
                Check.due("40: of one sort alone", x.copy(0, 0, 6, 0, 1), other == sort ? 1 : -12);
                Check.due("40: of one sort alone, none too", x.copy(6, 0, 0, 0, 0), other == sort ? 0 : -12);
                Check.due("40: sorts ahead of places", x.copy(6, 0, 0, 0, 3), other == sort ? -13 : -12);
            }
        }
    }

    private static void costAndToss() {
        for (int kind = 0; kind < 8; kind++) {
            for (int figure = 0; figure < 10; figure++) {
                MeteorsAreProposals x = new MeteorsAreProposals();
                int d = (kind + figure) % 8;
                x.keep(d, 1, kind, figure);
                for (int time = 0; time < 2; time++) {
                    String name = " of kind " + kind + " figure " + figure;
                    Check.due("41: cost" + name, x.cost(d), Told.COST[kind][figure]);
                    Check.due("42: toss" + name, x.toss(d), Told.TOSS[kind][figure]);
                }
                x.falls(d, 15, 4, 30);
                Check.due("42: what fell", x.meteor(0, 1), figure);
                Check.due("42: it stays on its shelf", x.cost(d), Told.COST[kind][figure]);
            }
        }
    }
}
