import java.util.Arrays;
import java.util.Map;
import java.util.Set;
import java.util.TreeMap;

/**
 * Each call with all its numbers at, below and above the bounds that the document names, each with each: the answers
 * are Plain's, and whatever is refused, or only asks, changes nothing.
 */
public final class EveryArgumentTest {
    private static final int[] ALL_SHELVES = {-1, 0, 1, 2, 3, 4, 5, 6, 7, 8};
    private static final int[] PLACES = {Integer.MIN_VALUE, -1, 0, 1, 2, 3, Integer.MAX_VALUE};
    /** What each number of a call can be at its edges, a letter each: see numbers. */
    private static final Map<String, String> LETTERS = new TreeMap<>();
    private static final Set<String> CHANGING = Set.of("sky", "falls", "meant", "looks", "run", "free", "image",
        "restore", "keep", "row", "put", "copy");
    private static int wrong = 0;
    private static int asked = 0;

    static {
        String letters = "sky d,meteor mw,looker lx,falls dcpn,meant mf,looks lcq,run n,free l,seen lm2,taker m,"
            + "unseen ,mistakes ,waiting ,august 2,bestRoof l2,roofs ,wed l,rings 2,curve d3,comes mv,together mm,"
            + "clouds lmt2,darkOnes d2,game maa2,rowOfRoofs r,laws dq2,scorched l,mean 2,forged d,judge dv,augusts tz2,image ,"
            + "restore ,count w,keep dxkq,row dso,put diz,element di,copy didii,cost d,toss d";
        for (String call : letters.split(",")) {
            String[] parts = call.split(" ");
            LETTERS.put(parts[0], parts.length > 1 ? parts[1] : "");
        }
    }

    private EveryArgumentTest() {
    }

    private static int[] numbers(char letter) {
        switch (letter) {
            case 'd': return ALL_SHELVES;
            case 'm': return new int[] {-1, 0, 2, 3, 7, 8};
            case 'l': return new int[] {-1, 0, 1, 4, 5};
            case 'c': return new int[] {-1, 0, 15, 16};
            case 'p': return new int[] {-1, 0, 4, 5};
            case 'n': return new int[] {-1, 0, 1, 2, 30, 31};
            case 'f': return new int[] {-1, 0, 4, 5, 6, 7, 8, 9, 10};
            case 'q': return new int[] {-1, 0, 5, 9, 10};
            case 'w': return new int[] {-1, 0, 1, 2, 3, 4, 5, 6, 7, 8, 9, 10};
            case 'x': return new int[] {-1, 0, 1, 2, 3, 4};
            case 'v': return new int[] {-1, 0, 1, 2, 364, 365, 366};
            case 't': return new int[] {0, 1, 2, 3, 19, 20, 21};
            case 'a': return new int[] {-1, 0, 2, 5, 6};
            case 'r': return new int[] {-1, 0, 1, 5, 10, 11, 12};
            case 'k': return new int[] {-1, 0, 1, 2, 3, 4, 5, 6, 7, 8};
            case 's': return new int[] {-1, 0, 1, 2, 3};
            case 'o': return new int[] {Integer.MIN_VALUE, -1, 0, 1, 99, 100, 101};
            case 'z': return new int[] {Integer.MIN_VALUE, -65537, -32769, -129, -1, 0, 127, 128, 255, 256, 32767,
                32768, 65535, 65536, Integer.MAX_VALUE};
            case 'i': return PLACES;
            case '2': return new int[] {Integer.MIN_VALUE, -1, 0, 1, 2, Integer.MAX_VALUE};
            case '3': return new int[] {-1, 0, 1, 2, 3};
            default: throw new IllegalArgumentException("letter " + letter);
        }
    }

    public static void main(String[] args) {
        int[] coasts = {Whole.NO_METEORS, Whole.SOME_METEORS, Whole.ALL_METEORS};
        for (int meteors : coasts) {
            long[] whole = Whole.of(Whole.coast(meteors, "r02;"));
            for (String name : Whole.names()) {
                Check.due("numbers of " + name, LETTERS.get(name).length(), Whole.numbersOf(name));
                each(name, new int[Whole.numbersOf(name)], 0, meteors, whole);
            }
        }
        Check.due("answers that are not as Plain's, or that change something", wrong, 0);
        Check.that("calls " + asked, asked > 50000);
        Check.end();
    }

    private static void each(String name, int[] values, int at, int meteors, long[] whole) {
        if (wrong > 20) {
            return;
        }
        if (at == values.length) {
            compare(name, values, meteors, whole);
            return;
        }
        for (int value : numbers(LETTERS.get(name).charAt(at))) {
            values[at] = value;
            each(name, values, at + 1, meteors, whole);
        }
    }

    private static void compare(String name, int[] values, int meteors, long[] whole) {
        asked++;
        MeteorsAreProposals x = Whole.coast(meteors, "r02;");
        Plain plain = Whole.plain(meteors, "r02;");
        String got = Whole.ask(x, name, values);
        String due = Whole.ask(plain, name, values);
        boolean refused = due.startsWith("-") || due.equals("1000000001") || due.startsWith("I");
        boolean changes = CHANGING.contains(name) && !refused;
        if (!got.equals(due) || !changes && !Arrays.equals(Whole.of(x), whole)) {
            wrong++;
            System.out.println(name + Arrays.toString(values) + " with " + meteors + " meteors answered " + got
                + ", Plain says " + due + (got.equals(due) ? ", but something changed" : ""));
        }
    }
}
