import java.math.BigInteger;
import java.util.ArrayList;
import java.util.List;
import java.util.regex.Matcher;
import java.util.regex.Pattern;

/** The document once more, written another way and by brute force, so that the class can be held against it. */
final class Plain {
    private static final Pattern SKY = Pattern.compile("(?:m\\d{8};|l\\d{4};|r\\d{2};|f\\d;)+");
    private static final Pattern STATEMENT = Pattern.compile("m\\d{8};|l\\d{4};|r\\d{2};|f\\d;");

    /** A meteor: kind, figure, column, slope, night, for. */
    private List<int[]> meteors = new ArrayList<>();
    /** A looker: roof, quick, said. */
    private int[][] lookers = new int[5][];
    private List<int[]> oldMeteors;
    private int[][] oldLookers;
    private final Object[] shelves = new Object[8];

    private static final class Shelved {
        int kind;
        int figure;
    }

    private static final class Numbers {
        int sort;
        int[] of;

        int least() {
            return sort == 0 ? Byte.MIN_VALUE : sort == 1 ? Short.MIN_VALUE : Integer.MIN_VALUE;
        }
    }

    Plain() {
        for (int l = 0; l < 5; l++) {
            lookers[l] = new int[] {3 * l, 5, 9};
        }
    }

    static int lasts(int kind, int f) {
        return new int[] {3 + f / 3, 6 + 2 * (f / 3), 3 + f / 3, 2 + f / 3, 8 + 2 * (f / 3), 3 + f / 3,
            3 + f / 3 + f / 2, 1}[kind];
    }

    static int bright(int kind, int f) {
        return new int[] {2, 1, -1, 2 + f / 2, 1, 0, 2, 4 + 2 * (f / 2)}[kind];
    }

    static int period(int kind, int f) {
        return new int[] {3 + f, 5 + f, 6 + 2 * f, 3 + f, 5 + f, 6 + 2 * f, f < 7 ? 3 + f : 7, 1}[kind];
    }

    static int heat(int kind, int f) {
        return new int[] {f, f, f, 2 * f, f < 3 ? 0 : f - 3, 0, f, f}[kind];
    }

    static int costOf(int kind, int f) {
        return new int[] {4, 4 + f, 1, 8, 7 + f, 1 + f, 6, 4}[kind];
    }

    private boolean in(int n, int low, int high) {
        return low <= n && n <= high;
    }

    private boolean isMeteor(int m) {
        return in(m, 0, meteors.size() - 1);
    }

    private List<int[]> copyOf(List<int[]> list) {
        List<int[]> other = new ArrayList<>();
        for (int[] one : list) {
            other.add(one.clone());
        }
        return other;
    }

    private int[][] copyOf(int[][] rows) {
        int[][] other = new int[rows.length][];
        for (int i = 0; i < rows.length; i++) {
            other[i] = rows[i].clone();
        }
        return other;
    }

    private int over(int[] m, int start, int step) {
        return Math.min(15, Math.max(0, start + step * (m[3] - 2)));
    }

    private List<Integer> seenSteps(int[] m, int start, int roof) {
        List<Integer> steps = new ArrayList<>();
        for (int s = 0; s < lasts(m[0], m[1]); s++) {
            int apart = over(m, start, s) - roof;
            if (apart * apart <= bright(m[0], m[1]) * bright(m[0], m[1]) && bright(m[0], m[1]) >= 0) {
                steps.add(s);
            }
        }
        return steps;
    }

    private int yes(int[] m, int roof, int quick) {
        List<Integer> steps = seenSteps(m, m[2], roof);
        int need = 4 - quick / 3;
        return steps.size() < need ? -4 : steps.get(need - 1);
    }

    private int first(int[] m, int[][] those, boolean onlyFree) {
        for (int s = 0; s < 20; s++) {
            for (int l = 0; l < 5; l++) {
                if (yes(m, those[l][0], those[l][1]) == s && (!onlyFree || those[l][2] == 9)) {
                    return l;
                }
            }
        }
        return 9;
    }

    private int saidBits() {
        int bits = 0;
        for (int[] looker : lookers) {
            bits |= looker[2] == 9 ? 0 : 1 << looker[2];
        }
        return bits;
    }

    private Object wanted(int d, Class<?> what) {
        if (shelves[d] == null) {
            return -11;
        }
        return what.isInstance(shelves[d]) ? shelves[d] : (Object) (-12);
    }

    int sky(int d) {
        if (!in(d, 0, 7)) {
            return -1;
        }
        Object shelf = wanted(d, Numbers.class);
        if (shelf instanceof Integer) {
            return (Integer) shelf;
        }
        Numbers row = (Numbers) shelf;
        if (row.sort != 0) {
            return -12;
        }
        StringBuilder text = new StringBuilder();
        for (int b : row.of) {
            text.append((char) (b & 255));
        }
        for (int i = 0; i < text.length(); i++) {
            Matcher prefix = SKY.matcher(text.substring(0, i + 1));
            if (!prefix.matches() && !prefix.hitEnd()) {
                return -1000 - i;
            }
        }
        if (!SKY.matcher(text).matches()) {
            return -1000 - text.length();
        }
        List<int[]> meteorsBefore = copyOf(meteors);
        int[][] lookersBefore = copyOf(lookers);
        Matcher each = STATEMENT.matcher(text);
        int many = 0;
        while (each.find()) {
            if (!tell(each.group())) {
                meteors = meteorsBefore;
                lookers = lookersBefore;
                return -2000 - each.start();
            }
            many++;
        }
        return many;
    }

    private boolean tell(String s) {
        if (s.charAt(0) == 'm') {
            int[] m = {number(s, 1, 2), number(s, 2, 3), number(s, 3, 5), number(s, 5, 6), number(s, 6, 8),
                number(s, 8, 9)};
            boolean good = m[0] < 8 && m[2] < 16 && m[3] < 5 && m[4] < 31 && (m[5] < 5 || m[5] == 9);
            if (!good || meteors.size() == 8) {
                return false;
            }
            return meteors.add(m);
        }
        if (s.charAt(0) == 'l') {
            return looks(number(s, 1, 2), number(s, 2, 4), number(s, 4, 5)) >= 0;
        }
        return (s.charAt(0) == 'r' ? run(number(s, 1, 3)) : free(number(s, 1, 2))) >= 0;
    }

    private int number(String s, int from, int to) {
        return Integer.parseInt(s.substring(from, to));
    }

    int meteor(int m, int what) {
        if (!isMeteor(m) || !in(what, 0, 9)) {
            return -1;
        }
        int[] one = meteors.get(m);
        int k = one[0];
        int f = one[1];
        return what < 6 ? one[what] : new int[] {lasts(k, f), bright(k, f) + 10, period(k, f), heat(k, f)}[what - 6];
    }

    int looker(int l, int what) {
        if (!in(l, 0, 4) || !in(what, 0, 3)) {
            return -1;
        }
        return what < 3 ? lookers[l][what] : 4 - lookers[l][1] / 3;
    }

    int falls(int d, int column, int slope, int night) {
        if (!in(d, 0, 7) || !in(column, 0, 15) || !in(slope, 0, 4) || !in(night, 0, 30)) {
            return -1;
        }
        Object shelf = wanted(d, Shelved.class);
        if (shelf instanceof Integer) {
            return (Integer) shelf;
        }
        if (meteors.size() == 8) {
            return -2;
        }
        Shelved one = (Shelved) shelf;
        meteors.add(new int[] {one.kind, one.figure, column, slope, night, 9});
        return meteors.size() - 1;
    }

    int meant(int m, int l) {
        if (!isMeteor(m) || !(in(l, 0, 4) || l == 9)) {
            return -1;
        }
        int was = meteors.get(m)[5];
        meteors.get(m)[5] = l;
        return was;
    }

    int looks(int l, int roof, int quick) {
        if (!in(l, 0, 4) || !in(roof, 0, 15) || !in(quick, 0, 9)) {
            return -1;
        }
        int was = lookers[l][0];
        lookers[l][0] = roof;
        lookers[l][1] = quick;
        return was;
    }

    int run(int night) {
        if (!in(night, 0, 30)) {
            return -1;
        }
        int many = 0;
        for (int m = 0; m < meteors.size(); m++) {
            boolean open = meteors.get(m)[4] == night && (saidBits() & 1 << m) == 0;
            int l = open ? first(meteors.get(m), lookers, true) : 9;
            if (l != 9) {
                lookers[l][2] = m;
                many++;
            }
        }
        return many;
    }

    int free(int l) {
        if (!in(l, 0, 4)) {
            return -1;
        }
        int was = lookers[l][2];
        lookers[l][2] = 9;
        return was;
    }

    int seen(int l, int m, int what) {
        if (!in(l, 0, 4) || !isMeteor(m) || !in(what, 0, 1)) {
            return -1;
        }
        if (what == 1) {
            return yes(meteors.get(m), lookers[l][0], lookers[l][1]);
        }
        int bits = 0;
        for (int s : seenSteps(meteors.get(m), meteors.get(m)[2], lookers[l][0])) {
            bits += 1 << s;
        }
        return bits;
    }

    int taker(int m) {
        if (!isMeteor(m)) {
            return -1;
        }
        int l = first(meteors.get(m), lookers, false);
        return l == 9 ? -4 : l;
    }

    int unseen() {
        int bits = 0;
        for (int m = 0; m < meteors.size(); m++) {
            boolean seen = false;
            for (int l = 0; l < 5; l++) {
                seen |= seen(l, m, 0) != 0;
            }
            bits += seen ? 0 : 1 << m;
        }
        return bits;
    }

    int mistakes() {
        int bits = 0;
        for (int l = 0; l < 5; l++) {
            int m = lookers[l][2];
            bits += m != 9 && meteors.get(m)[5] != l ? 1 << m : 0;
        }
        return bits;
    }

    int waiting() {
        int bits = 0;
        for (int l = 0; l < 5; l++) {
            bits += lookers[l][2] == 9 ? 1 << l : 0;
        }
        return bits;
    }

    int august(int what) {
        if (!in(what, 0, 1)) {
            return -1;
        }
        int[][] before = copyOf(lookers);
        for (int night = 0; night < 31; night++) {
            run(night);
        }
        int many = Integer.bitCount(what == 0 ? saidBits() : mistakes());
        lookers = before;
        return many;
    }

    int bestRoof(int l, int what) {
        if (!in(l, 0, 4) || !in(what, 0, 1)) {
            return -1;
        }
        int[] yeses = new int[16];
        int best = 15;
        for (int c = 15; c >= 0; c--) {
            for (int[] m : meteors) {
                yeses[c] += yes(m, c, lookers[l][1]) == -4 ? 0 : 1;
            }
            best = yeses[c] >= yeses[best] ? c : best;
        }
        return what == 0 ? best : yeses[best];
    }

    int roofs() {
        for (int many = 0; many <= 4; many++) {
            for (int bits = 0; bits < 65536; bits++) {
                if (Integer.bitCount(bits) == many && allSeen(bits)) {
                    return bits;
                }
            }
        }
        return -4;
    }

    private boolean allSeen(int bits) {
        for (int[] m : meteors) {
            boolean seen = bright(m[0], m[1]) < 0;
            for (int c = 0; c < 16 && !seen; c++) {
                seen = (bits & 1 << c) != 0 && !seenSteps(m, m[2], c).isEmpty();
            }
            if (!seen) {
                return false;
            }
        }
        return true;
    }

    int wed(int l) {
        if (!in(l, 0, 4)) {
            return -1;
        }
        int[] best = null;
        List<int[]> stable = new ArrayList<>();
        stableOnes(new int[] {9, 9, 9, 9, 9}, 0, stable);
        for (int[] one : stable) {
            boolean bestForAll = best == null;
            for (int i = 0; best != null && i < 5; i++) {
                bestForAll |= likes(i, one[i], best[i]);
            }
            best = bestForAll ? one : best;
        }
        return best[l] == 9 ? -4 : best[l];
    }

    private void stableOnes(int[] match, int l, List<int[]> found) {
        if (l == 5) {
            if (isStable(match)) {
                found.add(match.clone());
            }
            return;
        }
        for (int m = 0; m <= meteors.size(); m++) {
            boolean single = m == meteors.size();
            boolean used = false;
            for (int i = 0; i < l; i++) {
                used |= match[i] == m;
            }
            if (single || !used && seen(l, m, 1) >= 0) {
                match[l] = single ? 9 : m;
                stableOnes(match, l + 1, found);
                match[l] = 9;
            }
        }
    }

    private boolean isStable(int[] match) {
        for (int l = 0; l < 5; l++) {
            for (int m = 0; m < meteors.size(); m++) {
                int other = 9;
                for (int i = 0; i < 5; i++) {
                    other = match[i] == m ? i : other;
                }
                if (other != l && seen(l, m, 1) >= 0 && likes(l, m, match[l]) && prefers(m, l, other)) {
                    return false;
                }
            }
        }
        return true;
    }

    private boolean likes(int l, int m, int than) {
        if (m == than || m == 9) {
            return false;
        }
        if (than == 9) {
            return true;
        }
        int more = meteor(m, 9) - meteor(than, 9);
        return more > 0 || more == 0 && m < than;
    }

    private boolean prefers(int m, int l, int than) {
        return than == 9 || worth(m, l) > worth(m, than);
    }

    private int worth(int m, int l) {
        return (meteors.get(m)[5] == l ? 1000 : 0) + 10 * lookers[l][1] + 4 - l;
    }

    int rings(int what) {
        if (!in(what, 0, 1)) {
            return -1;
        }
        List<Integer> who = new ArrayList<>();
        List<Integer> ones = new ArrayList<>();
        for (int l = 0; l < 5; l++) {
            if (lookers[l][2] != 9) {
                who.add(l);
                ones.add(lookers[l][2]);
            }
        }
        int[] best = {0, 0};
        boolean[] begun = {false};
        permute(who, ones, new ArrayList<>(), best, begun);
        return best[what];
    }

    private void permute(List<Integer> who, List<Integer> ones, List<Integer> order, int[] best, boolean[] begun) {
        if (order.size() == who.size()) {
            int had = 0;
            int changed = 0;
            for (int i = 0; i < who.size(); i++) {
                had += meteors.get(order.get(i))[5] == who.get(i) ? 1 : 0;
                changed += order.get(i).equals(ones.get(i)) ? 0 : 1;
            }
            if (!begun[0] || had > best[0] || had == best[0] && changed < best[1]) {
                begun[0] = true;
                best[0] = had;
                best[1] = changed;
            }
            return;
        }
        for (int m : ones) {
            if (!order.contains(m)) {
                order.add(m);
                permute(who, ones, order, best, begun);
                order.remove(order.size() - 1);
            }
        }
    }

    int curve(int d, int what) {
        if (!in(d, 0, 7) || !in(what, 0, 2)) {
            return -1;
        }
        Object shelf = wanted(d, Numbers.class);
        if (shelf instanceof Integer) {
            return (Integer) shelf;
        }
        Numbers row = (Numbers) shelf;
        int bits = 0;
        int[] told = new int[16];
        for (int m = 0; m < meteors.size(); m++) {
            int[] one = meteors.get(m);
            boolean so = lasts(one[0], one[1]) >= row.of.length;
            for (int s = 0; so && s < row.of.length; s++) {
                so = row.of[s] == row.least() || row.of[s] == over(one, one[2], s);
            }
            bits += so ? 1 << m : 0;
            if (so && lasts(one[0], one[1]) > row.of.length) {
                told[over(one, one[2], row.of.length)]++;
            }
        }
        if (what < 2) {
            return what == 0 ? bits : Integer.bitCount(bits);
        }
        for (int many = 8; many > 0; many--) {
            for (int c = 0; c < 16; c++) {
                if (told[c] == many) {
                    return c;
                }
            }
        }
        return -4;
    }

    private boolean there(int m, int night) {
        int[] one = meteors.get(m);
        for (int n = one[4]; n <= night; n += period(one[0], one[1])) {
            if (n == night) {
                return true;
            }
        }
        return false;
    }

    int comes(int m, int v) {
        if (!isMeteor(m) || !in(v, 0, 365)) {
            return -1;
        }
        int[] one = meteors.get(m);
        int night = one[4];
        while (night < v) {
            night += period(one[0], one[1]);
        }
        return night > 365 ? -4 : night;
    }

    int together(int m, int n) {
        if (!isMeteor(m) || !isMeteor(n) || m == n) {
            return -1;
        }
        for (int night = comes(m, 0); night >= 0; night = night == 365 ? -4 : comes(m, night + 1)) {
            if (there(n, night)) {
                return night;
            }
        }
        return -4;
    }

    long clouds(int l, int m, int t, int part) {
        if (!in(l, 0, 4) || !isMeteor(m) || !in(t, 2, 20) || !in(part, 0, 1)) {
            return 1000000001L;
        }
        int bits = seen(l, m, 0);
        int steps = meteor(m, 6);
        BigInteger above = BigInteger.ZERO;
        for (int clear = 0; clear < 1 << steps; clear++) {
            if (Integer.bitCount(clear & bits) >= looker(l, 3)) {
                above = above.add(BigInteger.valueOf(t - 1L).pow(Integer.bitCount(clear)));
            }
        }
        BigInteger below = BigInteger.valueOf(t).pow(steps);
        BigInteger both = above.gcd(below);
        return (part == 0 ? above : below).divide(both).longValueExact();
    }

    int darkOnes(int d, int what) {
        if (!in(d, 0, 7) || !in(what, 0, 1)) {
            return -1;
        }
        Object shelf = wanted(d, Numbers.class);
        if (shelf instanceof Integer) {
            return (Integer) shelf;
        }
        int[] row = ((Numbers) shelf).of;
        int[] more = new int[31];
        for (int i = 0; i < row.length; i++) {
            if (row.length > 31 || !in(row[i], 0, 99)) {
                return -13;
            }
            more[i] = -row[i];
        }
        for (int[] m : meteors) {
            more[m[4]] += m[4] < row.length ? 1 : 0;
        }
        int sum = 0;
        int night = -4;
        for (int i = 30; i >= 0; i--) {
            sum += Math.max(0, more[i]);
            night = more[i] > 0 ? i : night;
        }
        return what == 0 ? night : sum;
    }

    int game(int m, int a, int b, int what) {
        if (!isMeteor(m) || !in(a, 0, 5) || !in(b, 0, 5) || !in(what, 0, 1)) {
            return -1;
        }
        int[] worst = {99, 99, 99};
        for (int i = 0; i < 9; i++) {
            int steps = seenSteps(meteors.get(m), b + i % 3 * 5, a + i / 3 * 5).size();
            worst[i / 3] = Math.min(worst[i / 3], steps);
        }
        int best = Math.max(worst[0], Math.max(worst[1], worst[2]));
        return what == 0 ? best : a + (worst[0] == best ? 0 : worst[1] == best ? 5 : 10);
    }

    int rowOfRoofs(int c) {
        if (!in(c, 0, 11)) {
            return -1;
        }
        int[][] those = copyOf(lookers);
        for (int l = 0; l < 5; l++) {
            those[l][0] = c + l;
        }
        int many = 0;
        for (int[] m : meteors) {
            many += first(m, those, false) == 9 ? 0 : 1;
        }
        return many;
    }

    int laws(int d, int f, int what) {
        if (!in(d, 0, 7) || !in(f, 0, 9) || !in(what, 0, 1)) {
            return -1;
        }
        Object shelf = wanted(d, Numbers.class);
        if (shelf instanceof Integer) {
            return (Integer) shelf;
        }
        int[] row = ((Numbers) shelf).of;
        if ((row.length & 1) == 1) {
            return -13;
        }
        int bits = 255;
        for (int k = 0; k < 8; k++) {
            for (int i = 0; i < row.length; i++) {
                if (row[i] != (i % 2 == 0 ? lasts(k, f) : bright(k, f))) {
                    bits &= ~(1 << k);
                }
            }
        }
        return what == 0 ? bits : Integer.bitCount(bits);
    }

    int scorched(int l) {
        if (!in(l, 0, 4)) {
            return -1;
        }
        return lookers[l][2] == 9 ? 0 : Math.max(0, meteor(lookers[l][2], 9) - lookers[l][1]);
    }

    long mean(int part) {
        if (!in(part, 0, 1)) {
            return 1000000001L;
        }
        BigInteger above = BigInteger.valueOf(count(1));
        BigInteger below = BigInteger.valueOf(meteors.isEmpty() ? 1 : meteors.size());
        return (part == 0 ? above : below).divide(above.gcd(below)).longValueExact();
    }

    int forged(int d) {
        if (!in(d, 0, 7)) {
            return -1;
        }
        Object shelf = wanted(d, Numbers.class);
        if (shelf instanceof Integer) {
            return (Integer) shelf;
        }
        int[] row = ((Numbers) shelf).of;
        for (int i = 0; i < row.length; i++) {
            if (i >= meteors.size() || first(meteors.get(i), lookers, false) != row[i]) {
                return i;
            }
        }
        return -4;
    }

    int judge(int d, int v) {
        if (!in(d, 0, 7) || !in(v, 0, 365)) {
            return -1;
        }
        Object shelf = wanted(d, Numbers.class);
        if (shelf instanceof Integer) {
            return (Integer) shelf;
        }
        Numbers row = (Numbers) shelf;
        for (int i = 0; i < row.of.length; i++) {
            int many = 0;
            for (int m = 0; m < meteors.size(); m++) {
                many += there(m, v + i) ? 1 : 0;
            }
            if (row.of[i] != row.least() && row.of[i] != many) {
                return i;
            }
        }
        return -4;
    }

    int augusts(int n, int z, int what) {
        if (!in(n, 1, 20) || !in(what, 0, 1)) {
            return -1;
        }
        int[] seed = {z};
        int taken = 0;
        int right = 0;
        for (int i = 0; i < n; i++) {
            int[][] those = new int[5][];
            for (int l = 0; l < 5; l++) {
                int roof = draw(seed, 16);
                those[l] = new int[] {roof, draw(seed, 10), 9};
            }
            for (int[] m : meteors) {
                int l = first(m, those, false);
                taken += l == 9 ? 0 : 1;
                right += l != 9 && l == m[5] ? 1 : 0;
            }
        }
        return what == 0 ? taken : right;
    }

    private int draw(int[] seed, int n) {
        seed[0] = (int) (seed[0] * 1103515245L + 12345L);
        return (int) ((seed[0] & 0x7fffffffL) >> 16) % n;
    }

    int image() {
        oldMeteors = copyOf(meteors);
        oldLookers = copyOf(lookers);
        return meteors.size();
    }

    int restore() {
        if (oldMeteors == null) {
            return -3;
        }
        meteors = copyOf(oldMeteors);
        lookers = copyOf(oldLookers);
        return meteors.size();
    }

    int count(int what) {
        int heat = 0;
        int lasts = 0;
        int quick = 0;
        int roof = 0;
        for (int m = 0; m < meteors.size(); m++) {
            heat += meteor(m, 9);
            lasts += meteor(m, 6);
        }
        for (int[] looker : lookers) {
            roof += looker[0];
            quick += looker[1];
        }
        int[] all = {meteors.size(), heat, lasts, quick, roof, saidBits()};
        return in(what, 0, 5) ? all[what] : -1;
    }

    int keep(int d, int what, int k, int figure) {
        if (!in(d, 0, 7) || !in(what, 0, 1) || what == 1 && (!in(k, 0, 7) || !in(figure, 0, 9))) {
            return -1;
        }
        Shelved one = new Shelved();
        one.kind = k;
        one.figure = figure;
        shelves[d] = what == 0 ? null : one;
        return 0;
    }

    int row(int d, int sort, int n) {
        if (!in(d, 0, 7) || !in(sort, 0, 2) || n > 100) {
            return -1;
        }
        if (n < 0) {
            return -14;
        }
        Numbers row = new Numbers();
        row.sort = sort;
        row.of = new int[n];
        shelves[d] = row;
        return 0;
    }

    int put(int d, int i, int v) {
        if (!in(d, 0, 7)) {
            return -1;
        }
        Object shelf = wanted(d, Numbers.class);
        if (shelf instanceof Integer) {
            return (Integer) shelf;
        }
        Numbers row = (Numbers) shelf;
        if (!in(i, 0, row.of.length - 1)) {
            return -13;
        }
        row.of[i] = row.sort == 0 ? (byte) v : row.sort == 1 ? (short) v : v;
        return 0;
    }

    long element(int d, int i) {
        if (!in(d, 0, 7)) {
            throw new IllegalArgumentException();
        }
        if (!(shelves[d] instanceof Numbers) || !in(i, 0, ((Numbers) shelves[d]).of.length - 1)) {
            throw new IllegalStateException();
        }
        return ((Numbers) shelves[d]).of[i];
    }

    int copy(int d, int i, int e, int j, int n) {
        if (!in(d, 0, 7) || !in(e, 0, 7)) {
            return -1;
        }
        if (shelves[d] == null || shelves[e] == null) {
            return -11;
        }
        if (!(shelves[d] instanceof Numbers) || !(shelves[e] instanceof Numbers)) {
            return -12;
        }
        Numbers from = (Numbers) shelves[d];
        Numbers to = (Numbers) shelves[e];
        if (from.sort != to.sort) {
            return -12;
        }
        if (n < 0 || i < 0 || j < 0 || (long) i + n > from.of.length || (long) j + n > to.of.length) {
            return -13;
        }
        int[] part = new int[n];
        for (int k = 0; k < n; k++) {
            part[k] = from.of[i + k];
        }
        for (int k = 0; k < n; k++) {
            to.of[j + k] = part[k];
        }
        return n;
    }

    int cost(int d) {
        if (!in(d, 0, 7)) {
            return -1;
        }
        Object shelf = wanted(d, Shelved.class);
        return shelf instanceof Integer ? (Integer) shelf : costOf(((Shelved) shelf).kind, ((Shelved) shelf).figure);
    }

    int toss(int d) {
        if (!in(d, 0, 7)) {
            return -1;
        }
        Object shelf = wanted(d, Shelved.class);
        if (shelf instanceof Integer) {
            return (Integer) shelf;
        }
        Shelved one = (Shelved) shelf;
        if (one.figure == 0 || one.kind == 2 || one.kind == 5) {
            return -15;
        }
        return one.kind == 4 ? 207 + one.figure : one.kind == 1 ? 100 + one.figure : one.figure;
    }
}
