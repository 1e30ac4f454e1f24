import java.lang.reflect.InvocationTargetException;
import java.lang.reflect.Method;
import java.util.ArrayList;
import java.util.Arrays;
import java.util.Comparator;
import java.util.List;
import java.util.Random;

/** Runs of calls drawn from fixed seeds, each answer held against that of Plain; all promises, and 512 calls a run. */
public final class PlainTest {
    private static final int[] EDGES = {-1, 0, 1, 2, 4, 5, 7, 8, 9, 10, 15, 16, 20, 21, 30, 31, 99, 100, 101, 127, -128,
        365, 366, -32768, 65536, Integer.MAX_VALUE, Integer.MIN_VALUE};
    private static final String[] RARE = {"roofs", "wed", "clouds", "augusts"};
    private static int wrong = 0;

    private PlainTest() {
    }

    public static void main(String[] args) throws Exception {
        List<Method> calls = new ArrayList<>();
        for (Method call : MeteorsAreProposals.class.getDeclaredMethods()) {
            if (java.lang.reflect.Modifier.isPublic(call.getModifiers())) {
                calls.add(call);
            }
        }
        // the order in which reflection tells methods is free, and runs are to be the same each time
        calls.sort(Comparator.comparing(Method::getName));
        int runs = args.length > 1 ? Integer.parseInt(args[1]) : 1000;
        int first = args.length > 2 ? Integer.parseInt(args[2]) : 0;
        for (int seed = first; seed < first + runs && wrong == 0; seed++) {
            oneRun(seed, calls);
        }
        Check.due("answers that are not as Plain's", wrong, 0);
        Check.end();
    }

    private static void oneRun(int seed, List<Method> calls) throws Exception {
        Random random = new Random(seed);
        MeteorsAreProposals x = new MeteorsAreProposals();
        Plain plain = new Plain();
        StringBuilder log = new StringBuilder();
        int made = 0;
        while (made < 512 && wrong == 0) {
            if (random.nextInt(12) == 0 && made < 400) {
                made += tellRow(random, x, plain);
                log.append("..a row.. ");
                continue;
            }
            Method call = calls.get(random.nextInt(calls.size()));
            boolean rare = Arrays.asList(RARE).contains(call.getName());
            if (rare && random.nextInt(6) != 0) {
                continue;
            }
            if (call.getName().equals("restore") && random.nextInt(4) != 0) {
                continue;
            }
            Object[] values = arguments(random, call);
            log.append(call.getName()).append(Arrays.toString(values)).append(' ');
            compare(seed, call, values, x, plain, log);
            made++;
        }
    }

    private static int tellRow(Random random, MeteorsAreProposals x, Plain plain) {
        int d = random.nextInt(3);
        int sort = random.nextInt(3);
        int[] numbers;
        int way = random.nextInt(4);
        if (way < 2) {
            String text = text(random);
            sort = 0;
            numbers = text.chars().limit(100).toArray();
        } else if (way == 2) {
            numbers = random.ints(random.nextInt(5), -1, 4).map(n -> n == -1 ? leastOf(0) : n).toArray();
            sort = 0;
        } else {
            numbers = trueRow(random, plain, sort);
        }
        x.row(d, sort, numbers.length);
        plain.row(d, sort, numbers.length);
        for (int i = 0; i < numbers.length; i++) {
            x.put(d, i, numbers[i]);
            plain.put(d, i, numbers[i]);
        }
        int got = way < 2 ? x.sky(d) : x.judge(d, 3);
        int due = way < 2 ? plain.sky(d) : plain.judge(d, 3);
        if (got != due) {
            wrong++;
            System.out.println("row " + Arrays.toString(numbers) + " answered " + got + ", Plain says " + due);
        }
        return numbers.length + 2;
    }

    private static int leastOf(int sort) {
        return sort == 0 ? -128 : sort == 1 ? -32768 : Integer.MIN_VALUE;
    }

    /** Rows that tell the truth, but for a number here and there: otherwise few rows would go far. */
    private static int[] trueRow(Random random, Plain plain, int sort) {
        int many = plain.count(0);
        int[] row;
        switch (random.nextInt(4)) {
            case 0: {
                int m = many == 0 ? 0 : random.nextInt(many);
                int length = many == 0 ? 2 : random.nextInt(plain.meteor(m, 6) + 1);
                row = new int[length];
                for (int s = 0; s < length && many > 0; s++) {
                    int over = plain.meteor(m, 2) + s * (plain.meteor(m, 3) - 2);
                    row[s] = Math.max(0, Math.min(15, over));
                }
                break;
            }
            case 1: {
                row = new int[many];
                for (int m = 0; m < many; m++) {
                    row[m] = plain.taker(m) == -4 ? 9 : plain.taker(m);
                }
                break;
            }
            case 2: {
                row = new int[random.nextInt(20)];
                for (int i = 0; i < row.length; i++) {
                    for (int m = 0; m < many; m++) {
                        row[i] += plain.comes(m, 3 + i) == 3 + i ? 1 : 0;
                    }
                }
                break;
            }
            default: {
                int kind = random.nextInt(8);
                int figure = random.nextInt(10);
                row = new int[2 * random.nextInt(4)];
                for (int i = 0; i < row.length; i++) {
                    row[i] = i % 2 == 0 ? Plain.lasts(kind, figure) : Plain.bright(kind, figure);
                }
            }
        }
        for (int i = 0; i < row.length; i++) {
            int other = random.nextInt(12);
            row[i] = other == 0 ? leastOf(sort) : other == 1 && random.nextInt(3) == 0 ? row[i] + 1 : row[i];
        }
        return row;
    }

    private static String text(Random random) {
        StringBuilder text = new StringBuilder();
        int statements = 1 + random.nextInt(6);
        for (int i = 0; i < statements; i++) {
            switch (random.nextInt(5)) {
                case 0:
                    text.append(String.format("l%d%02d%d;", near(random, 5), near(random, 16), random.nextInt(10)));
                    break;
                case 1:
                    text.append(String.format("r%02d;", random.nextInt(5) == 0 ? near(random, 31) : random.nextInt(4)));
                    break;
                case 2:
                    text.append(String.format("f%d;", near(random, 5)));
                    break;
                default:
                    int whom = random.nextInt(3) == 0 ? 9 : near(random, 5);
                    text.append(String.format("m%d%d%02d%d%02d%d;", near(random, 8), random.nextInt(10),
                        near(random, 16), near(random, 5), random.nextInt(4) == 0 ? near(random, 31) : random.nextInt(4),
                        whom));
            }
        }
        if (random.nextInt(4) == 0) {
            int at = random.nextInt(text.length());
            text.setCharAt(at, "mlrf;0123456789 :/".charAt(random.nextInt(18)));
        }
        if (random.nextInt(8) == 0) {
            text.setLength(random.nextInt(text.length() + 1));
        }
        return text.toString();
    }

    private static int near(Random random, int limit) {
        return random.nextInt(40) == 0 ? Math.min(limit == 16 || limit == 31 ? 99 : 9, limit + random.nextInt(3))
            : random.nextInt(limit);
    }

    private static Object[] arguments(Random random, Method call) {
        Object[] values = new Object[call.getParameterCount()];
        for (int i = 0; i < values.length; i++) {
            int way = random.nextInt(20);
            values[i] = way == 0 ? EDGES[random.nextInt(EDGES.length)] : way == 1 ? random.nextInt(40)
                : random.nextInt(i == values.length - 1 ? 3 : 6);
        }
        String name = call.getName();
        if (name.equals("comes") || name.equals("judge")) {
            values[1] = random.nextInt(8) == 0 ? values[1] : (Object) random.nextInt(366);
        }
        if (name.equals("augusts")) {
            values[1] = random.nextInt();
        }
        if (name.equals("looks") || name.equals("falls")) {
            values[1] = random.nextInt(17);
            values[2] = random.nextInt(name.equals("looks") ? 11 : 5);
        }
        if (name.equals("keep") && random.nextInt(3) != 0) {
            values[0] = 3 + random.nextInt(5);
            values[1] = 1;
            values[2] = random.nextInt(8);
            values[3] = random.nextInt(10);
        }
        if (name.equals("meteor")) {
            values[1] = random.nextInt(11);
        }
        if (name.equals("clouds")) {
            values[2] = 1 + random.nextInt(21);
        }
        return values;
    }

    private static void compare(int seed, Method call, Object[] values, MeteorsAreProposals x, Plain plain,
            StringBuilder log) throws Exception {
        Method other = Plain.class.getDeclaredMethod(call.getName(), call.getParameterTypes());
        String got = answer(call, x, values);
        String due = answer(other, plain, values);
        if (!got.equals(due)) {
            wrong++;
            System.out.println("seed " + seed + ": " + log + "answered " + got + ", Plain says " + due);
        }
    }

    private static String answer(Method call, Object on, Object[] values) throws Exception {
        try {
            return String.valueOf(((Number) call.invoke(on, values)).longValue());
        } catch (InvocationTargetException e) {
            return e.getCause().getClass().getSimpleName();
        }
    }
}
