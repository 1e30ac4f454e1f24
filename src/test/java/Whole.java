import java.lang.reflect.InvocationTargetException;
import java.lang.reflect.Method;
import java.lang.reflect.Modifier;
import java.util.Arrays;
import java.util.Map;
import java.util.TreeMap;

/** Coasts on which something stands everywhere, and all that can be told of one: a refused call changes none of it. */
final class Whole {
    static final int NO_METEORS = 0;
    static final int SOME_METEORS = 3;
    static final int ALL_METEORS = 8;
    private static final Map<String, Method> CALLS = new TreeMap<>();
    private static final Map<String, Method> PLAIN_CALLS = new TreeMap<>();

    static {
        for (Method call : MeteorsAreProposals.class.getDeclaredMethods()) {
            if (Modifier.isPublic(call.getModifiers())) {
                CALLS.put(call.getName(), call);
            }
        }
        for (Method call : Plain.class.getDeclaredMethods()) {
            if (CALLS.containsKey(call.getName())
                    && Arrays.equals(call.getParameterTypes(), CALLS.get(call.getName()).getParameterTypes())) {
                PLAIN_CALLS.put(call.getName(), call);
            }
        }
    }

    private Whole() {
    }

    /** The names of all calls, in an order that does not depend on reflection. */
    static Iterable<String> names() {
        return CALLS.keySet();
    }

    static int numbersOf(String name) {
        return CALLS.get(name).getParameterCount();
    }

    /** A call by its name, on a coast or on a Plain one; what it throws is told as its name. */
    static String ask(Object on, String name, int... values) {
        Method call = (on instanceof Plain ? PLAIN_CALLS : CALLS).get(name);
        Object[] boxed = new Object[values.length];
        for (int i = 0; i < values.length; i++) {
            boxed[i] = values[i];
        }
        try {
            return String.valueOf(((Number) call.invoke(on, boxed)).longValue());
        } catch (InvocationTargetException e) {
            return e.getCause().getClass().getSimpleName();
        } catch (IllegalAccessException e) {
            throw new IllegalStateException(e);
        }
    }

    static MeteorsAreProposals coast(int meteors, String text) {
        MeteorsAreProposals x = new MeteorsAreProposals();
        tell(x, meteors, text);
        return x;
    }

    static Plain plain(int meteors, String text) {
        Plain plain = new Plain();
        tell(plain, meteors, text);
        return plain;
    }

    /**
     * Shelf 0 holds a METEOR, 1 three bytes, 2 two shorts, 3 four ints, 4 nothing, 5 a text, 6 no bytes, 7 a LONG one.
     * An image is taken, and differs from what stands, if there are meteors; of none there is no image.
     */
    private static void tell(Object on, int meteors, String text) {
        for (int m = 0; m < meteors; m++) {
            ask(on, "keep", 0, 1, m, 9 - m);
            ask(on, "falls", 0, 2 * m, m % 5, m % 3);
            ask(on, "meant", m, m % 2 == 0 ? m / 2 : 9);
        }
        ask(on, "looks", 1, 4, 9);
        ask(on, "looks", 3, 11, 7);
        ask(on, "run", 0);
        if (meteors > 0) {
            ask(on, "image");
            ask(on, "meant", 0, 3);
        }
        ask(on, "looks", 0, 1, 6);
        ask(on, "run", 1);
        ask(on, "keep", 0, 1, 0, 4);
        numbers(on, 1, Check.BYTES, 1, 2, 3);
        numbers(on, 2, Check.SHORTS, 4, 5);
        numbers(on, 3, Check.INTS, 6, 7, 8, 9);
        numbers(on, 5, Check.BYTES, text.chars().toArray());
        numbers(on, 6, Check.BYTES);
        ask(on, "keep", 7, 1, 4, 9);
    }

    /** How many calls it takes to tell such a coast: an object is used for 512. */
    static int callsOf(int meteors, String text) {
        int rows = 5;
        int numbers = 3 + 2 + 4 + text.length();
        int kinds = 2;
        int looksAndRuns = 5;
        return 3 * meteors + (meteors > 0 ? 2 : 0) + looksAndRuns + kinds + rows + numbers;
    }

    private static void numbers(Object on, int d, int sort, int... numbers) {
        ask(on, "row", d, sort, numbers.length);
        for (int i = 0; i < numbers.length; i++) {
            ask(on, "put", d, i, numbers[i]);
        }
    }

    /** All that a coast tells of itself; its shelves and its image are used up by that. */
    static long[] of(MeteorsAreProposals x) {
        long[] told = new long[512];
        int at = sky(x, told, 0);
        for (int d = 0; d < 8; d++) {
            told[at++] = x.cost(d);
            told[at++] = x.toss(d);
            at = elements(x, d, told, at);
            told[at++] = x.copy(6, 0, d, 0, 0);
            told[at++] = x.put(d, 0, 0x12348181);
            told[at++] = elementOr(x, d, 0, -5);
        }
        told[at++] = x.restore();
        at = sky(x, told, at);
        return Arrays.copyOf(told, at);
    }

    private static int sky(MeteorsAreProposals x, long[] told, int from) {
        int at = from;
        for (int m = 0; m < 8; m++) {
            for (int what = 0; what < 6; what++) {
                told[at++] = x.meteor(m, what);
            }
        }
        for (int l = 0; l < 5; l++) {
            for (int what = 0; what < 3; what++) {
                told[at++] = x.looker(l, what);
            }
        }
        return at;
    }

    private static int elements(MeteorsAreProposals x, int d, long[] told, int from) {
        int at = from;
        long behindInts = 1L << 40;
        for (int i = 0; i <= 100; i++) {
            long one = elementOr(x, d, i, behindInts);
            told[at++] = one;
            if (one == behindInts) {
                break;
            }
        }
        return at;
    }

    private static long elementOr(MeteorsAreProposals x, int d, int i, long other) {
        try {
            return x.element(d, i);
        } catch (IllegalStateException e) {
            return other;
        }
    }

    /** A call that is refused, or that only asks: its answer, and that it changed nothing. */
    static void changesNothing(int meteors, String text, String due, String name, int... values) {
        MeteorsAreProposals x = coast(meteors, text);
        String told = name + Arrays.toString(values) + " with " + meteors + " meteors, text " + text;
        Check.same(told, ask(x, name, values), due);
        Check.that(told + " changes nothing", Arrays.equals(of(x), of(coast(meteors, text))));
    }
}
