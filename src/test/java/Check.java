/** What the tests share: answers compared with those that are due, and rows and texts put on shelves. */
final class Check {
    static final int BYTES = 0;
    static final int SHORTS = 1;
    static final int INTS = 2;
    private static int wrong = 0;
    private static int asked = 0;

    private Check() {
    }

    static void due(String what, long got, long want) {
        asked++;
        if (got != want) {
            wrong++;
            System.out.println(what + " answered " + got + ", due is " + want);
        }
    }

    static void that(String what, boolean holds) {
        asked++;
        if (!holds) {
            wrong++;
            System.out.println(what + " does not hold");
        }
    }

    static int text(MeteorsAreProposals x, int d, String text) {
        x.row(d, BYTES, text.length());
        for (int i = 0; i < text.length(); i++) {
            x.put(d, i, text.charAt(i));
        }
        return x.sky(d);
    }

    static MeteorsAreProposals told(String text) {
        MeteorsAreProposals x = new MeteorsAreProposals();
        int statements = text(x, 7, text);
        that("the text " + text + " (" + statements + ")", statements > 0);
        x.keep(7, 0, 0, 0);
        return x;
    }

    static void row(MeteorsAreProposals x, int d, int sort, int... numbers) {
        due("row", x.row(d, sort, numbers.length), 0);
        for (int i = 0; i < numbers.length; i++) {
            due("put", x.put(d, i, numbers[i]), 0);
        }
    }

    static void throwsOne(String what, MeteorsAreProposals x, int d, int i, Class<?> due) {
        asked++;
        String got = "nothing";
        try {
            x.element(d, i);
        } catch (RuntimeException e) {
            got = e.getClass().getName();
        }
        if (!got.equals(due.getName())) {
            wrong++;
            System.out.println(what + " threw " + got + ", due is " + due.getName());
        }
    }

    static void end() {
        System.out.println(asked + " answers, " + wrong + " wrong");
        if (wrong != 0 || asked == 0) {
            System.exit(1);
        }
    }
}
