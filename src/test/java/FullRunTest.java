/** The limit of 512 calls: up to the very last one each answer is Plain's, whichever call is asked so often. */
public final class FullRunTest {
    private static final int LIMIT = 512;
    private static final String TEXT = "m79072000;f0;r02;";
    /** Good numbers for each call on Whole's coast; shelf 5 holds the text. */
    private static final String[] CALLS = {
        "sky 5", "meteor 7 9", "looker 4 3", "falls 7 15 4 30", "meant 7 9", "looks 4 15 9", "run 2", "free 4",
        "seen 1 0 0", "taker 7", "unseen", "mistakes", "waiting", "august 0", "bestRoof 4 1", "roofs", "wed 4",
        "rings 1", "curve 1 2", "comes 7 365", "together 6 7", "clouds 1 0 20 1", "darkOnes 1 0", "game 3 5 5 0",
        "rowOfRoofs 11", "laws 2 9 0", "scorched 1", "mean 0", "forged 1", "judge 3 365", "augusts 20 -1 0", "image", "restore", "count 5",
        "keep 7 1 4 9", "row 7 2 100", "put 3 3 -5", "element 3 3", "copy 3 0 3 1 3", "cost 7", "toss 7",
    };

    private FullRunTest() {
    }

    public static void main(String[] args) {
        Check.due("calls", CALLS.length, 41);
        for (String call : CALLS) {
            String[] parts = call.split(" ");
            int[] values = new int[parts.length - 1];
            for (int i = 0; i < values.length; i++) {
                values[i] = Integer.parseInt(parts[i + 1]);
            }
            asked(Whole.SOME_METEORS, parts[0], values);
            asked(Whole.ALL_METEORS, parts[0], values);
        }
        filledAndRestored();
        rowsAgainAndAgain();
        textsAgainAndAgain();
        Check.end();
    }

    private static void asked(int meteors, String name, int[] values) {
        MeteorsAreProposals x = Whole.coast(meteors, TEXT);
        Plain plain = Whole.plain(meteors, TEXT);
        for (int call = Whole.callsOf(meteors, TEXT) + 1; call <= LIMIT; call++) {
            Check.same(name + " as call " + call, Whole.ask(x, name, values), Whole.ask(plain, name, values));
        }
    }

    /** Meteors fall until there is no room, and go with the image: 512 calls in all. */
    private static void filledAndRestored() {
        MeteorsAreProposals x = new MeteorsAreProposals();
        x.keep(7, 1, 4, 9);
        x.image();
        for (int call = 3; call <= LIMIT; call++) {
            int m = (call - 3) % 10;
            if (m == 9) {
                Check.due("34: restored as call " + call, x.restore(), 0);
            } else {
                Check.due("5: as call " + call, x.falls(7, 1, 2, 3), m == 8 ? -2 : m);
            }
        }
    }

    private static void rowsAgainAndAgain() {
        MeteorsAreProposals x = new MeteorsAreProposals();
        for (int call = 1; call <= LIMIT; call += 4) {
            int d = call / 4 % 8;
            Check.due("37: as call " + call, x.row(d, Check.INTS, 100), 0);
            Check.due("39: 0 at first", x.element(d, 99), 0);
            Check.due("38: put", x.put(d, 99, call), 0);
            Check.due("39: as call " + (call + 3), x.element(d, 99), call);
        }
    }

    private static void textsAgainAndAgain() {
        // two statements, and a fault behind them
        MeteorsAreProposals x = new MeteorsAreProposals();
        Check.row(x, 0, Check.BYTES, "m09032009;r00;f5;".chars().toArray());
        for (int call = 19; call <= LIMIT; call++) {
            Check.due("2: as call " + call, x.sky(0), -2014);
        }
        MeteorsAreProposals y = new MeteorsAreProposals();
        Check.row(y, 0, Check.BYTES, "l4159;r30;f4;".chars().toArray());
        for (int call = 15; call <= LIMIT; call++) {
            Check.due("2: as call " + call, y.sky(0), 3);
        }
    }
}
