/** Promises 36 to 42: shelves, rows, costs, failures. */
public final class ShelvesTest {
    private ShelvesTest() {
    }

    public static void main(String[] args) {
        keep();
        row();
        put();
        element();
        copy();
        copyRefused();
        costAndToss();
        Check.end();
    }

    private static void keep() {
        MeteorsAreProposals x = new MeteorsAreProposals();
        Check.due("36: a kind", x.keep(7, 1, 7, 9), 0);
        Check.due("36: it stands", x.cost(7), 4);
        Check.due("36: nothing, whatever else", x.keep(7, 0, -5, 77), 0);
        Check.due("36: nothing", x.cost(7), -11);
        x.row(7, 0, 3);
        Check.due("36: in place of a row", x.keep(7, 1, 1, 0), 0);
        Check.due("36: no row any more", x.put(7, 0, 0), -12);
        Check.due("36: kind", x.keep(7, 1, 8, 0), -1);
        Check.due("36: kind", x.keep(7, 1, -1, 0), -1);
        Check.due("36: figure", x.keep(7, 1, 0, 10), -1);
        Check.due("36: figure", x.keep(7, 1, 0, -1), -1);
        Check.due("36: what", x.keep(7, 2, 0, 0), -1);
        Check.due("36: what", x.keep(7, -1, 0, 0), -1);
        Check.due("36: shelf", x.keep(8, 0, 0, 0), -1);
        Check.due("36: shelf", x.keep(-1, 1, 0, 0), -1);
        Check.due("36: nothing changed", x.cost(7), 4);
    }

    private static void row() {
        MeteorsAreProposals x = new MeteorsAreProposals();
        Check.due("37: the longest", x.row(0, 2, 100), 0);
        x.put(0, 99, 5);
        Check.due("37: put", x.element(0, 99), 5);
        Check.due("37: a new one", x.row(0, 2, 100), 0);
        Check.due("37: of zeros", x.element(0, 99), 0);
        Check.due("37: empty", x.row(0, 0, 0), 0);
        Check.due("37: no place in it", x.put(0, 0, 0), -13);
        Check.due("37: too long", x.row(0, 0, 101), -1);
        Check.due("37: below 0", x.row(0, 0, -1), -14);
        Check.due("37: least", x.row(0, 0, Integer.MIN_VALUE), -14);
        Check.due("37: sort", x.row(0, 3, 1), -1);
        Check.due("37: sort", x.row(0, -1, 1), -1);
        Check.due("37: shelf", x.row(8, 0, 1), -1);
        Check.due("37: -1 ahead of -14", x.row(-1, 0, -1), -1);
        Check.due("37: nothing changed", x.put(0, 0, 0), -13);
        x.keep(1, 1, 0, 0);
        Check.due("37: in place of a kind", x.row(1, 1, 1), 0);
        Check.due("37: no kind any more", x.cost(1), -12);
    }

    private static void put() {
        MeteorsAreProposals x = new MeteorsAreProposals();
        for (int sort = 0; sort < 3; sort++) {
            x.row(sort, sort, 2);
            Check.due("38: put", x.put(sort, 1, 0x12348081), 0);
        }
        Check.due("38: a byte", x.element(0, 1), -127);
        Check.due("38: a short", x.element(1, 1), -32639);
        Check.due("38: an int", x.element(2, 1), 0x12348081);
        Check.due("38: the other stays", x.element(2, 0), 0);
        Check.due("38: place", x.put(0, 2, 1), -13);
        Check.due("38: place", x.put(0, -1, 1), -13);
        Check.due("38: shelf", x.put(8, 0, 1), -1);
        Check.due("38: shelf", x.put(-1, 0, 1), -1);
        Check.due("38: nothing", x.put(3, 0, 1), -11);
        x.keep(3, 1, 0, 0);
        Check.due("38: a kind", x.put(3, 9, 1), -12);
    }

    private static void element() {
        MeteorsAreProposals x = new MeteorsAreProposals();
        Check.row(x, 0, Check.INTS, Integer.MIN_VALUE, Integer.MAX_VALUE);
        Check.due("39: least", x.element(0, 0), Integer.MIN_VALUE);
        Check.due("39: greatest", x.element(0, 1), Integer.MAX_VALUE);
        x.keep(1, 1, 0, 0);
        Check.throwsOne("39: shelf", x, 8, 0, IllegalArgumentException.class);
        Check.throwsOne("39: shelf", x, -1, 0, IllegalArgumentException.class);
        Check.throwsOne("39: shelf and place", x, 8, -1, IllegalArgumentException.class);
        Check.throwsOne("39: nothing", x, 2, 0, IllegalStateException.class);
        Check.throwsOne("39: a kind", x, 1, 0, IllegalStateException.class);
        Check.throwsOne("39: place", x, 0, 2, IllegalStateException.class);
        Check.throwsOne("39: place", x, 0, -1, IllegalStateException.class);
    }

    private static void copy() {
        MeteorsAreProposals x = new MeteorsAreProposals();
        Check.row(x, 0, Check.SHORTS, 1, 2, 3, 4, 5);
        x.row(1, 1, 4);
        Check.due("40: three", x.copy(0, 1, 1, 0, 3), 3);
        Check.due("40: first", x.element(1, 0), 2);
        Check.due("40: last", x.element(1, 2), 4);
        Check.due("40: the rest stays", x.element(1, 3), 0);
        Check.due("40: within one, upward", x.copy(0, 0, 0, 1, 4), 4);
        for (int i = 0; i < 5; i++) {
            Check.due("40: upward", x.element(0, i), Math.max(1, i));
        }
        Check.due("40: within one, downward", x.copy(0, 1, 0, 0, 4), 4);
        for (int i = 0; i < 5; i++) {
            Check.due("40: downward", x.element(0, i), Math.min(4, i + 1));
        }
        Check.due("40: none", x.copy(0, 5, 1, 4, 0), 0);
        Check.due("40: all", x.copy(1, 0, 1, 0, 4), 4);
    }

    private static void copyRefused() {
        MeteorsAreProposals x = new MeteorsAreProposals();
        x.row(0, 1, 5);
        x.row(1, 1, 4);
        x.row(2, 0, 4);
        x.keep(3, 1, 0, 0);
        Check.due("40: n below 0", x.copy(0, 1, 1, 1, -1), -13);
        Check.due("40: i below 0", x.copy(0, -1, 1, 0, 1), -13);
        Check.due("40: j below 0", x.copy(0, 0, 1, -1, 1), -13);
        Check.due("40: too many from", x.copy(1, 1, 0, 0, 4), -13);
        Check.due("40: too many to", x.copy(0, 0, 1, 1, 4), -13);
        Check.due("40: i behind the end", x.copy(0, 6, 1, 0, 0), -13);
        Check.due("40: sum that wraps", x.copy(0, Integer.MAX_VALUE, 1, 0, 2), -13);
        Check.due("40: great n", x.copy(0, 1, 1, 1, Integer.MAX_VALUE), -13);
        Check.due("40: sorts", x.copy(0, 0, 2, 0, 1), -12);
        Check.due("40: -12 ahead of -13", x.copy(0, 0, 2, 0, -1), -12);
        Check.due("40: a kind", x.copy(0, 0, 3, 0, 1), -12);
        Check.due("40: a kind", x.copy(3, 0, 0, 0, 1), -12);
        Check.due("40: two kinds", x.copy(3, 0, 3, 0, 0), -12);
        Check.due("40: nothing", x.copy(0, 0, 4, 0, 1), -11);
        Check.due("40: nothing", x.copy(4, 0, 0, 0, 1), -11);
        Check.due("40: -11 ahead of -12", x.copy(3, 0, 4, 0, 1), -11);
        Check.due("40: shelf", x.copy(8, 0, 0, 0, 1), -1);
        Check.due("40: shelf", x.copy(0, 0, 8, 0, 1), -1);
        Check.due("40: -1 ahead of -11", x.copy(4, 0, -1, 0, 1), -1);
    }

    private static void costAndToss() {
        MeteorsAreProposals x = new MeteorsAreProposals();
        // kind, figure, cost, toss
        int[][] ones = {
            {0, 0, 4, -15}, {0, 7, 4, 7}, {1, 0, 4, -15}, {1, 7, 11, 107}, {2, 0, 1, -15}, {2, 7, 1, -15},
            {3, 0, 8, -15}, {3, 7, 8, 7}, {4, 0, 7, -15}, {4, 7, 14, 214}, {5, 0, 1, -15}, {5, 7, 8, -15},
            {6, 0, 6, -15}, {6, 7, 6, 7}, {7, 0, 4, -15}, {7, 7, 4, 7}, {4, 1, 8, 208}, {1, 1, 5, 101},
        };
        for (int[] one : ones) {
            x.keep(5, 1, one[0], one[1]);
            Check.due("41: kind " + one[0] + " figure " + one[1], x.cost(5), one[2]);
            Check.due("42: kind " + one[0] + " figure " + one[1], x.toss(5), one[3]);
            Check.due("42: it stays", x.cost(5), one[2]);
        }
        int[] shelves = {-1, 8, 0, 1};
        int[] due = {-1, -1, -11, -12};
        x.row(1, 0, 0);
        for (int i = 0; i < shelves.length; i++) {
            Check.due("41: shelf", x.cost(shelves[i]), due[i]);
            Check.due("42: shelf", x.toss(shelves[i]), due[i]);
        }
    }
}
