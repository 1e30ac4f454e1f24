import java.util.Arrays;

/**
 * Each refusal of promises 2 to 42 by itself, of several the first one as told at the call, and that none changes
 * anything; beside each bound the last number that is taken. Shelves stand as Whole.coast tells.
 */
public final class RefusalsTest {
    private static final String TEXT = "f0;";
    private static final String LONG_REFUSED = "1000000001";
    private static final int LEAST = Integer.MIN_VALUE;
    private static final int GREATEST = Integer.MAX_VALUE;
    private static final int METEOR = 0;
    private static final int BYTES = 1;
    private static final int SHORTS = 2;
    private static final int INTS = 3;
    private static final int NOTHING = 4;
    private static final int EMPTY = 6;
    private static final int LONG = 7;

    private RefusalsTest() {
    }

    public static void main(String[] args) {
        sky();
        skyFaults();
        meteorAndLooker();
        falls();
        meantAndLooks();
        runAndFree();
        seenAndTaker();
        augustToRings();
        curve();
        comesAndTogether();
        clouds();
        darkOnes();
        gameAndRowOfRoofs();
        laws();
        scorchedAndMean();
        forgedAndJudge();
        augusts();
        restoreAndCount();
        keep();
        row();
        put();
        element();
        copyShelves();
        copyPlaces();
        costAndToss();
        noMeteors();
        Check.end();
    }

    private static void refused(int due, String call, int... values) {
        Whole.changesNothing(Whole.ALL_METEORS, TEXT, String.valueOf(due), call, values);
    }

    private static void taken(String call, String refusal, int... values) {
        String got = Whole.ask(Whole.coast(Whole.ALL_METEORS, TEXT), call, values);
        Check.that(call + Arrays.toString(values) + " is taken, answered " + got, !got.equals(refusal));
    }

    /** One of the numbers of a call goes from one bound to the other, with the others as they are: -1 beside them. */
    private static void bounds(String call, int at, int least, int greatest, int... good) {
        bounds(call, "-1", at, least, greatest, good);
    }

    private static void bounds(String call, String due, int at, int least, int greatest, int... good) {
        int[] values = good.clone();
        for (int inside = 0; inside < 2; inside++) {
            values[at] = inside == 0 ? least : greatest;
            taken(call, due, values);
        }
        int[] outside = {least - 1, greatest + 1, LEAST, GREATEST};
        for (int one : outside) {
            values[at] = one;
            Whole.changesNothing(Whole.ALL_METEORS, TEXT, due, call, values);
        }
    }

    /** Calls that want a ROW: no such shelf, nothing on it, a kind; each with the other numbers as they are. */
    private static void wantsRow(String call, int... good) {
        int[] values = good.clone();
        int[] shelves = {-1, 8, LEAST, GREATEST, NOTHING, METEOR, LONG};
        int[] due = {-1, -1, -1, -1, -11, -12, -12};
        for (int i = 0; i < shelves.length; i++) {
            values[0] = shelves[i];
            refused(due[i], call, values);
        }
    }

    private static void sky() {
        wantsRow("sky", 5);
        refused(-12, "sky", SHORTS);
        refused(-12, "sky", INTS);
        refused(-1000, "sky", EMPTY);
        refused(-1000, "sky", BYTES);
        taken("sky", "-1", 5);
    }

    /** With one FAULT nothing comes, of whichever kind it is. */
    private static void skyFaults() {
        String good = "l0150;r02;f1;f3;";
        String[] bad = {"x", "f5;", "r31;", "l0160;", "l5000;", "m80000009;", "f", "r1", "m0000000;", "m00000009;"};
        int[] due = {-1016, -2016, -2016, -2016, -2016, -2016, -1017, -1018, -1024, -2016};
        for (int i = 0; i < bad.length; i++) {
            Whole.changesNothing(Whole.ALL_METEORS, good + bad[i], String.valueOf(due[i]), "sky", 5);
        }
        String some = "m00000009;r00;f0;l0000;";
        String[] badOfSome = {";", "m", "m80000009;", "m00160009;", "m00005009;", "m00000319;", "m00000005;"};
        int[] dueOfSome = {-1023, -1024, -2023, -2023, -2023, -2023, -2023};
        for (int i = 0; i < badOfSome.length; i++) {
            Whole.changesNothing(Whole.SOME_METEORS, some + badOfSome[i], String.valueOf(dueOfSome[i]), "sky", 5);
        }
    }

    private static void meteorAndLooker() {
        bounds("meteor", 0, 0, 7, 3, 0);
        bounds("meteor", 1, 0, 9, 3, 0);
        bounds("meteor", 1, 0, 9, 7, 0);
        refused(-1, "meteor", 8, 10);
        bounds("looker", 0, 0, 4, 2, 0);
        bounds("looker", 1, 0, 3, 2, 0);
        refused(-1, "looker", -1, -1);
    }

    private static void falls() {
        int[] shelves = {-1, 8, LEAST, GREATEST, NOTHING, BYTES, SHORTS, INTS, EMPTY};
        int[] due = {-1, -1, -1, -1, -11, -12, -12, -12, -12};
        int[][] noNumbers = {{16, 0, 0}, {-1, 4, 30}, {0, 5, 0}, {15, -1, 30}, {0, 0, 31}, {15, 4, -1}, {16, 5, 31}};
        int[] coasts = {Whole.SOME_METEORS, Whole.ALL_METEORS};
        for (int meteors : coasts) {
            for (int i = 0; i < shelves.length; i++) {
                Whole.changesNothing(meteors, TEXT, String.valueOf(due[i]), "falls", shelves[i], 15, 4, 30);
                for (int[] numbers : noNumbers) {
                    Whole.changesNothing(meteors, TEXT, "-1", "falls", shelves[i], numbers[0], numbers[1], numbers[2]);
                }
            }
            for (int at = 1; at <= 3; at++) {
                int[] outside = {LEAST, -1, at == 1 ? 16 : at == 2 ? 5 : 31, GREATEST};
                for (int one : outside) {
                    int[] values = {LONG, 0, 0, 0};
                    values[at] = one;
                    Whole.changesNothing(meteors, TEXT, "-1", "falls", values);
                }
            }
        }
        refused(-2, "falls", METEOR, 0, 0, 0);
        refused(-2, "falls", LONG, 15, 4, 30);
    }

    private static void meantAndLooks() {
        bounds("meant", 0, 0, 7, 3, 4);
        bounds("meant", 1, 0, 4, 3, 4);
        taken("meant", "-1", 3, 9);
        for (int l = 5; l <= 10; l++) {
            if (l != 9) {
                refused(-1, "meant", 3, l);
            }
        }
        refused(-1, "meant", 8, 9);
        bounds("looks", 0, 0, 4, 2, 3, 3);
        bounds("looks", 1, 0, 15, 2, 3, 3);
        bounds("looks", 2, 0, 9, 2, 3, 3);
        refused(-1, "looks", 5, 16, 10);
    }

    private static void runAndFree() {
        bounds("run", 0, 0, 30, 2);
        bounds("free", 0, 0, 4, 2);
    }

    private static void seenAndTaker() {
        bounds("seen", 0, 0, 4, 2, 3, 0);
        bounds("seen", 1, 0, 7, 2, 3, 0);
        bounds("seen", 2, 0, 1, 2, 3, 0);
        refused(-1, "seen", 5, 8, 2);
        bounds("taker", 0, 0, 7, 3);
    }

    private static void augustToRings() {
        bounds("august", 0, 0, 1, 0);
        bounds("bestRoof", 0, 0, 4, 2, 0);
        bounds("bestRoof", 1, 0, 1, 2, 0);
        refused(-1, "bestRoof", 5, 2);
        bounds("wed", 0, 0, 4, 2);
        bounds("rings", 0, 0, 1, 0);
    }

    private static void curve() {
        for (int what = 0; what <= 2; what++) {
            wantsRow("curve", BYTES, what);
        }
        bounds("curve", 1, 0, 2, EMPTY, 0);
        int[] shelves = {NOTHING, METEOR, -1};
        for (int d : shelves) {
            refused(-1, "curve", d, 3);
            refused(-1, "curve", d, -1);
        }
    }

    private static void comesAndTogether() {
        bounds("comes", 0, 0, 7, 3, 100);
        bounds("comes", 1, 0, 365, 7, 0);
        refused(-1, "comes", 8, 366);
        bounds("together", 0, 1, 7, 3, 0);
        bounds("together", 1, 1, 7, 0, 3);
        bounds("together", 0, 0, 6, 3, 7);
        bounds("together", 1, 0, 6, 7, 3);
        for (int m = -1; m <= 8; m++) {
            refused(-1, "together", m, m);
        }
    }

    private static void clouds() {
        bounds("clouds", LONG_REFUSED, 0, 0, 4, 2, 3, 5, 0);
        bounds("clouds", LONG_REFUSED, 1, 0, 7, 2, 3, 5, 0);
        bounds("clouds", LONG_REFUSED, 2, 2, 20, 2, 3, 5, 0);
        bounds("clouds", LONG_REFUSED, 3, 0, 1, 2, 3, 5, 0);
        bounds("clouds", LONG_REFUSED, 2, 2, 20, 2, 3, 5, 1);
        Whole.changesNothing(Whole.ALL_METEORS, TEXT, LONG_REFUSED, "clouds", 5, 8, 1, 2);
    }

    private static void darkOnes() {
        wantsRow("darkOnes", BYTES, 0);
        wantsRow("darkOnes", BYTES, 1);
        bounds("darkOnes", 1, 0, 1, BYTES, 0);
        int[] shelves = {NOTHING, METEOR, -1, 5};
        for (int d : shelves) {
            refused(-1, "darkOnes", d, 2);
        }
        // the text is three numbers, the second 48, the first and the third 100 and more or not
        String[] texts = {"d", "cd", "dc", "c" + (char) 255, (char) 128 + "c"};
        for (String text : texts) {
            for (int what = 0; what < 2; what++) {
                Whole.changesNothing(Whole.ALL_METEORS, text, "-13", "darkOnes", 5, what);
            }
            Whole.changesNothing(Whole.ALL_METEORS, text, "-1", "darkOnes", 5, 2);
        }
        String zeros = new String(new char[100]);
        int[] tooLong = {32, 33, 100};
        for (int length : tooLong) {
            Whole.changesNothing(Whole.ALL_METEORS, zeros.substring(0, length), "-13", "darkOnes", 5, 0);
            Whole.changesNothing(Whole.ALL_METEORS, zeros.substring(0, length), "-13", "darkOnes", 5, 1);
        }
        Whole.changesNothing(Whole.ALL_METEORS, zeros.substring(0, 31), "0", "darkOnes", 5, 0);
    }

    private static void gameAndRowOfRoofs() {
        bounds("game", 0, 0, 7, 3, 2, 2, 0);
        bounds("game", 1, 0, 5, 3, 2, 2, 0);
        bounds("game", 2, 0, 5, 3, 2, 2, 0);
        bounds("game", 3, 0, 1, 3, 2, 2, 0);
        refused(-1, "game", 8, 6, 6, 2);
        bounds("rowOfRoofs", 0, 0, 11, 5);
    }

    private static void laws() {
        wantsRow("laws", SHORTS, 0, 0);
        wantsRow("laws", SHORTS, 9, 1);
        bounds("laws", 1, 0, 9, SHORTS, 5, 0);
        bounds("laws", 2, 0, 1, SHORTS, 5, 0);
        refused(-13, "laws", BYTES, 0, 0);
        refused(-13, "laws", BYTES, 9, 1);
        int[] shelves = {NOTHING, METEOR, BYTES, -1};
        for (int d : shelves) {
            refused(-1, "laws", d, 10, 0);
            refused(-1, "laws", d, 0, 2);
        }
        String[] unwhole = {"a", new String(new char[99])};
        for (String text : unwhole) {
            Whole.changesNothing(Whole.ALL_METEORS, text, "-13", "laws", 5, 5, 0);
        }
        Whole.changesNothing(Whole.ALL_METEORS, new String(new char[100]), "0", "laws", 5, 5, 0);
    }

    private static void scorchedAndMean() {
        bounds("scorched", 0, 0, 4, 2);
        bounds("mean", LONG_REFUSED, 0, 0, 1, 0);
    }

    private static void forgedAndJudge() {
        wantsRow("forged", BYTES);
        wantsRow("judge", BYTES, 0);
        wantsRow("judge", BYTES, 365);
        bounds("judge", 1, 0, 365, BYTES, 5);
        int[] shelves = {NOTHING, METEOR, -1};
        for (int d : shelves) {
            refused(-1, "judge", d, 366);
            refused(-1, "judge", d, -1);
        }
    }

    private static void augusts() {
        bounds("augusts", 0, 1, 20, 5, 7, 0);
        bounds("augusts", 2, 0, 1, 5, 7, 0);
        refused(-1, "augusts", 0, LEAST, 0);
        refused(-1, "augusts", 21, GREATEST, 1);
        taken("augusts", "-1", 20, LEAST, 0);
        taken("augusts", "-1", 20, GREATEST, 1);
        taken("augusts", "-1", 1, -1, 0);
        taken("augusts", "-1", 1, 0, 0);
    }

    private static void restoreAndCount() {
        Whole.changesNothing(Whole.NO_METEORS, TEXT, "-3", "restore");
        bounds("count", 0, 0, 5, 2);
    }

    private static void keep() {
        int[] shelves = {METEOR, BYTES, SHORTS, INTS, NOTHING, 5, EMPTY, LONG};
        for (int d : shelves) {
            bounds("keep", 1, 0, 1, d, 1, 3, 3);
            bounds("keep", 2, 0, 7, d, 1, 3, 3);
            bounds("keep", 3, 0, 9, d, 1, 3, 3);
        }
        bounds("keep", 0, 0, 7, 3, 1, 3, 3);
        bounds("keep", 0, 0, 7, 3, 0, 3, 3);
        bounds("keep", 0, 0, 7, 3, 0, 8, 10);
        refused(-1, "keep", 8, 2, 8, 10);
        taken("keep", "-1", 0, 0, 8, 10);
        taken("keep", "-1", 0, 0, -1, -1);
        taken("keep", "-1", 0, 0, LEAST, GREATEST);
    }

    private static void row() {
        int[] shelves = {METEOR, BYTES, INTS, NOTHING, EMPTY, LONG};
        for (int d : shelves) {
            bounds("row", 1, 0, 2, d, 0, 3);
            taken("row", "-1", d, 0, 0);
            taken("row", "-1", d, 0, 100);
            refused(-1, "row", d, 0, 101);
            refused(-1, "row", d, 0, GREATEST);
            refused(-14, "row", d, 0, -1);
            refused(-14, "row", d, 2, LEAST);
            refused(-1, "row", d, 3, -1);
            refused(-1, "row", d, -1, -1);
            refused(-1, "row", d, 3, 101);
        }
        bounds("row", 0, 0, 7, 3, 0, 3);
        refused(-1, "row", -1, 0, -1);
        refused(-1, "row", 8, 0, LEAST);
    }

    private static void put() {
        wantsRow("put", BYTES, 0, 5);
        wantsRow("put", BYTES, -1, 5);
        wantsRow("put", BYTES, 3, 5);
        bounds("put", "-13", 1, 0, 2, BYTES, 0, 5);
        bounds("put", "-13", 1, 0, 1, SHORTS, 0, 5);
        bounds("put", "-13", 1, 0, 3, INTS, 0, 5);
        refused(-13, "put", EMPTY, 0, 5);
        refused(-13, "put", EMPTY, -1, 5);
    }

    private static void element() {
        int[] places = {LEAST, -1, 0, 3, GREATEST};
        int[] noShelves = {LEAST, -1, 8, GREATEST};
        int[] noRows = {NOTHING, METEOR, LONG};
        for (int i : places) {
            for (int d : noShelves) {
                Whole.changesNothing(Whole.ALL_METEORS, TEXT, "IllegalArgumentException", "element", d, i);
            }
            for (int d : noRows) {
                Whole.changesNothing(Whole.ALL_METEORS, TEXT, "IllegalStateException", "element", d, i);
            }
        }
        bounds("element", "IllegalStateException", 1, 0, 2, BYTES, 0);
        bounds("element", "IllegalStateException", 1, 0, 1, SHORTS, 0);
        bounds("element", "IllegalStateException", 1, 0, 3, INTS, 0);
        Whole.changesNothing(Whole.ALL_METEORS, TEXT, "IllegalStateException", "element", EMPTY, 0);
    }

    private static void copyShelves() {
        int[] noShelves = {LEAST, -1, 8, GREATEST};
        int[] all = {METEOR, BYTES, SHORTS, INTS, NOTHING, EMPTY, LONG, -1, 8};
        for (int bad : noShelves) {
            for (int other : all) {
                refused(-1, "copy", bad, 0, other, 0, 1);
                refused(-1, "copy", other, 0, bad, 0, -1);
            }
        }
        int[] held = {METEOR, BYTES, SHORTS, INTS, EMPTY, LONG, NOTHING};
        for (int other : held) {
            refused(-11, "copy", NOTHING, 0, other, 0, 1);
            refused(-11, "copy", other, 0, NOTHING, 0, -1);
        }
        int[] kinds = {METEOR, LONG};
        for (int kind : kinds) {
            for (int i = 0; i < 6; i++) {
                refused(-12, "copy", kind, 0, held[i], 0, 1);
                refused(-12, "copy", held[i], 0, kind, 0, -1);
            }
        }
        int[][] sorts = {{BYTES, SHORTS}, {SHORTS, BYTES}, {BYTES, INTS}, {INTS, BYTES}, {SHORTS, INTS},
            {INTS, SHORTS}};
        for (int[] pair : sorts) {
            refused(-12, "copy", pair[0], 0, pair[1], 0, 1);
            refused(-12, "copy", pair[0], 0, pair[1], 0, 0);
            refused(-12, "copy", pair[0], 0, pair[1], 0, -1);
            refused(-12, "copy", pair[0], 9, pair[1], 9, 9);
        }
    }

    /** Of three bytes on shelf 1 and the text's three on shelf 5, and within the four ints. */
    private static void copyPlaces() {
        int[][] shelves = {{BYTES, 5, 3}, {5, BYTES, 3}, {BYTES, BYTES, 3}, {INTS, INTS, 4}};
        for (int[] pair : shelves) {
            int d = pair[0];
            int e = pair[1];
            int length = pair[2];
            bounds("copy", "-13", 4, 0, length, d, 0, e, 0, 0);
            bounds("copy", "-13", 4, 0, length - 1, d, 1, e, 0, 0);
            bounds("copy", "-13", 4, 0, length - 1, d, 0, e, 1, 0);
            bounds("copy", "-13", 1, 0, length - 2, d, 0, e, 0, 2);
            bounds("copy", "-13", 3, 0, length - 2, d, 0, e, 0, 2);
            int[][] wrapping = {{GREATEST, 0, 1}, {0, GREATEST, 1}, {1, 0, GREATEST}, {0, 1, GREATEST},
                {GREATEST, GREATEST, 2}, {2, 2, GREATEST - 1}, {LEAST, LEAST, LEAST}, {LEAST, 0, GREATEST},
                {-1, 0, 1}, {0, -1, 1}, {-1, -1, 0}, {1, 1, -1}, {length + 1, 0, 0}, {0, length + 1, 0}};
            for (int[] one : wrapping) {
                refused(-13, "copy", d, one[0], e, one[1], one[2]);
            }
        }
        refused(-13, "copy", BYTES, 0, EMPTY, 0, 1);
        refused(-13, "copy", EMPTY, 0, BYTES, 0, 1);
    }

    private static void costAndToss() {
        int[] shelves = {-1, 8, LEAST, GREATEST, NOTHING, BYTES, SHORTS, INTS, EMPTY};
        int[] due = {-1, -1, -1, -1, -11, -12, -12, -12, -12};
        for (int i = 0; i < shelves.length; i++) {
            refused(due[i], "cost", shelves[i]);
            refused(due[i], "toss", shelves[i]);
        }
        for (int kind = 0; kind < 8; kind++) {
            for (int figure = 0; figure < 10; figure++) {
                if (figure == 0 || kind == 2 || kind == 5) {
                    MeteorsAreProposals x = Whole.coast(Whole.ALL_METEORS, TEXT);
                    MeteorsAreProposals y = Whole.coast(Whole.ALL_METEORS, TEXT);
                    x.keep(LONG, 1, kind, figure);
                    y.keep(LONG, 1, kind, figure);
                    Check.due("42: kind " + kind + " figure " + figure + " has none", x.toss(LONG), -15);
                    Check.that("42: nothing changes", Arrays.equals(Whole.of(x), Whole.of(y)));
                }
            }
        }
    }

    /** Where there are none, no number is one of a METEOR. */
    private static void noMeteors() {
        String[] calls = {"meteor", "meant", "seen", "taker", "comes", "together", "together", "clouds", "game"};
        int[][] values = {{0, 0}, {0, 0}, {0, 0, 0}, {0}, {0, 0}, {0, 1}, {1, 0}, {0, 0, 2, 0}, {0, 0, 0, 0}};
        for (int i = 0; i < calls.length; i++) {
            String due = calls[i].equals("clouds") ? LONG_REFUSED : "-1";
            Whole.changesNothing(Whole.NO_METEORS, TEXT, due, calls[i], values[i]);
            int at = calls[i].equals("seen") || calls[i].equals("clouds") ? 1 : 0;
            values[i][at] = values[i][at] == 1 ? 4 : 3;
            Whole.changesNothing(Whole.SOME_METEORS, TEXT, due, calls[i], values[i]);
        }
        Whole.changesNothing(Whole.SOME_METEORS, TEXT, "-1", "together", 0, 3);
    }
}
