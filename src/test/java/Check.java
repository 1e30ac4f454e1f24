/** What the tests share: answers compared with those that are due, and rows and texts put on shelves. */
final class Check {
    static final int BYTES = 0;
    static final int SHORTS = 1;
    static final int INTS = 2;
    private static final long MOST_MILLISECONDS = 300_000;
    private static int wrong = 0;
    private static int asked = 0;

    static {
        // a call that never ends fails its test, too
        Thread watch = new Thread(Check::endLate);
        watch.setDaemon(true);
        watch.start();
    }

    private Check() {
    }

    private static void endLate() {
        try {
            Thread.sleep(MOST_MILLISECONDS);
        } catch (InterruptedException e) {
            return;
        }
        System.out.println("the test does not end");
        Runtime.getRuntime().halt(1);
    }

    static void due(String what, long got, long want) {
        asked++;
        if (got != want) {
            wrong++;
            System.out.println(what + " answered " + got + ", due is " + want);
        }
    }

    static void same(String what, String got, String want) {
        asked++;
        if (!got.equals(want)) {
            wrong++;
            System.out.println(what + " answered " + got + ", due is " + want);
        }
    }

    static void that(String what, boolean holds) {
        asked++;
        if (!holds) {
            wrong++;
            System.out.println(what + " does not hold");
        }
    }

    static int text(MeteorsAreProposals x, int d, String text) {
        x.row(d, BYTES, text.length());
        for (int i = 0; i < text.length(); i++) {
            x.put(d, i, text.charAt(i));
        }
        return x.sky(d);
    }

    static MeteorsAreProposals told(String text) {
        MeteorsAreProposals x = new MeteorsAreProposals();
        int statements = text(x, 7, text);
        that("the text " + text + " (" + statements + ")", statements > 0);
        x.keep(7, 0, 0, 0);
        return x;
    }

    /** A meteor more, by way of shelf 7: its number. */
    static int fall(MeteorsAreProposals x, int kind, int figure, int column, int slope, int night) {
        due("keep", x.keep(7, 1, kind, figure), 0);
        return x.falls(7, column, slope, night);
    }

    static void row(MeteorsAreProposals x, int d, int sort, int... numbers) {
        due("row", x.row(d, sort, numbers.length), 0);
        for (int i = 0; i < numbers.length; i++) {
            due("put", x.put(d, i, numbers[i]), 0);
        }
    }

    static void throwsOne(String what, MeteorsAreProposals x, int d, int i, Class<?> due) {
        asked++;
        String got = "nothing";
        try {
            x.element(d, i);
        } catch (RuntimeException e) {
            got = e.getClass().getName();
        }
        if (!got.equals(due.getName())) {
            wrong++;
            System.out.println(what + " threw " + got + ", due is " + due.getName());
        }
    }

    static void end() {
        System.out.println(asked + " answers, " + wrong + " wrong");
        if (wrong != 0 || asked == 0) {
            System.exit(1);
        }
    }
}
