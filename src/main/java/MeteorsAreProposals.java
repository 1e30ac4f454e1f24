import java.util.Arrays;

/** A coast of columns, meteors that fall over it, and lookers who say yes: see DOC.md for what each call promises. */
public final class MeteorsAreProposals {

    private static final int NO_SUCH = -1;
    private static final int NO_ROOM = -2;
    private static final int NOT_AS_IT_MUST_BE = -3;
    private static final int NONE = -4;
    private static final int NOTHING_HELD = -11;
    private static final int OF_ANOTHER_KIND = -12;
    private static final int NO_SUCH_PLACE = -13;
    private static final int SIZE_BELOW_ZERO = -14;
    private static final int NO_FAILURE = -15;
    private static final long NO_SUCH_TOLD_AS_LONG = 1000000001L;

    private static final int COLUMNS = 16;
    private static final int METEORS = 8;
    private static final int KINDS = 8;
    private static final int FIGURES = 10;
    private static final int SLOPES = 5;
    private static final int NIGHTS = 31;
    private static final int LOOKERS = 5;
    private static final int QUICKS = 10;
    private static final int ALL_LOOKERS = 31;
    /** FOR nobody, SAID none, TAKEN by nobody: the document tells all of them by this number. */
    private static final int NOBODY = 9;
    private static final int DAYS = 366;

    private static final int SHELVES = 8;
    private static final int SORTS = 3;
    private static final int BYTES = 0;
    private static final int SHORTS = 1;
    private static final int LONGEST_ROW = 100;
    private static final int HOLDS_NOTHING = 0;
    private static final int HOLDS_METEOR = 1;
    private static final int HOLDS_ROW = 2;

    private static final int MOST_ROOFS = 4;
    private static final int PLACES_TO_CHOOSE = 3;
    private static final int BETWEEN_PLACES = 5;
    private static final int HIGHEST_BEGIN = 5;
    /** One had by whom it is for outweighs all lookers who keep theirs, of whom there are five at most. */
    private static final int RIGHT_ONE = 8;

    private final Sky now = new Sky();
    private final Sky imaged = new Sky();
    /** What a call only supposes happens here, so that nothing changes by asking. */
    private final Sky supposed = new Sky();
    private boolean imageTaken;

    private final int[] held = new int[SHELVES];
    private final Meteor[] kept = new Meteor[SHELVES];
    private final Row[] rows = new Row[SHELVES];

    private final int[] wedTo = new int[LOOKERS];
    private final int[] asked = new int[LOOKERS];
    private final int[] keeps = new int[METEORS];
    private final int[] covers = new int[COLUMNS];
    private final int[] votes = new int[COLUMNS];

    public MeteorsAreProposals() {
        for (int d = 0; d < SHELVES; d++) {
            rows[d] = new Row();
        }
    }

    // ---- the sky as told

    public int sky(int d) {
        if (!isBelow(d, SHELVES)) {
            return NO_SUCH;
        }
        Row text = rowOn(d);
        if (text == null) {
            return whyNot(d);
        }
        if (text.sort != BYTES) {
            return OF_ANOTHER_KIND;
        }
        int wrongByte = SkyText.firstWrongByte(text);
        if (wrongByte >= 0) {
            return -1000 - wrongByte;
        }
        supposed.becomes(now);
        int statements = 0;
        for (int place = 0; place < text.length; place += SkyText.digitsBehind(text.at(place)) + 2) {
            if (!SkyText.isTold(text, place, supposed)) {
                return -2000 - place;
            }
            statements++;
        }
        now.becomes(supposed);
        return statements;
    }

    public int meteor(int m, int what) {
        Meteor one = now.at(m);
        if (one == null) {
            return NO_SUCH;
        }
        switch (what) {
            case 0: return one.kind;
            case 1: return one.figure;
            case 2: return one.column;
            case 3: return one.slope;
            case 4: return one.night;
            case 5: return now.isFor[m];
            case 6: return one.lasts();
            case 7: return one.bright() + 10;
            case 8: return one.period();
            case 9: return one.heat();
            default: return NO_SUCH;
        }
    }

    public int looker(int l, int what) {
        if (!isBelow(l, LOOKERS)) {
            return NO_SUCH;
        }
        switch (what) {
            case 0: return now.roof[l];
            case 1: return now.quick[l];
            case 2: return now.said[l];
            case 3: return Sky.need(now.quick[l]);
            default: return NO_SUCH;
        }
    }

    public int falls(int d, int column, int slope, int night) {
        if (!isBelow(d, SHELVES) || !isBelow(column, COLUMNS) || !isBelow(slope, SLOPES) || !isBelow(night, NIGHTS)) {
            return NO_SUCH;
        }
        Meteor pattern = meteorOn(d);
        if (pattern == null) {
            return whyNot(d);
        }
        Meteor one = madeOf(pattern.kind, pattern.figure);
        one.begins(column, slope, night);
        return now.add(one, NOBODY);
    }

    public int meant(int m, int l) {
        if (now.at(m) == null || !isSomebodyOrNobody(l)) {
            return NO_SUCH;
        }
        int was = now.isFor[m];
        now.isFor[m] = l;
        return was;
    }

    public int looks(int l, int roof, int quick) {
        return now.putOnRoof(l, roof, quick);
    }

    public int run(int night) {
        return now.runNight(night);
    }

    public int free(int l) {
        return now.setFree(l);
    }

    // ---- who sees

    public int seen(int l, int m, int what) {
        Meteor one = now.at(m);
        if (!isBelow(l, LOOKERS) || one == null) {
            return NO_SUCH;
        }
        switch (what) {
            case 0: return one.seenFrom(now.roof[l], one.column);
            case 1: return now.yesStep(l, one);
            default: return NO_SUCH;
        }
    }

    public int taker(int m) {
        Meteor one = now.at(m);
        if (one == null) {
            return NO_SUCH;
        }
        return numberOrNone(now.firstOf(ALL_LOOKERS, one));
    }

    public int unseen() {
        int bits = 0;
        for (int m = 0; m < METEORS; m++) {
            Meteor one = now.at(m);
            if (one != null && !now.isSeenByAny(one)) {
                bits |= 1 << m;
            }
        }
        return bits;
    }

    public int mistakes() {
        return now.mistaken();
    }

    public int waiting() {
        return now.lookersFree();
    }

    public int august(int what) {
        if (!isBelow(what, 2)) {
            return NO_SUCH;
        }
        supposed.becomes(now);
        for (int night = 0; night < NIGHTS; night++) {
            supposed.runNight(night);
        }
        return Integer.bitCount(what == 0 ? supposed.saidYesTo() : supposed.mistaken());
    }

    public int bestRoof(int l, int what) {
        if (!isBelow(l, LOOKERS) || !isBelow(what, 2)) {
            return NO_SUCH;
        }
        int best = 0;
        int most = -1;
        for (int column = 0; column < COLUMNS; column++) {
            int yeses = yesesFrom(column, Sky.need(now.quick[l]));
            if (yeses > most) {
                best = column;
                most = yeses;
            }
        }
        return what == 0 ? best : most;
    }

    private int yesesFrom(int roof, int need) {
        int yeses = 0;
        for (int m = 0; m < METEORS; m++) {
            Meteor one = now.at(m);
            if (one != null && one.yesFrom(roof, need) >= 0) {
                yeses++;
            }
        }
        return yeses;
    }

    public int roofs() {
        for (int column = 0; column < COLUMNS; column++) {
            covers[column] = seenFromColumn(column);
        }
        int wanted = 0;
        for (int m = 0; m < METEORS; m++) {
            Meteor one = now.at(m);
            if (one != null && one.bright() >= 0) {
                wanted |= 1 << m;
            }
        }
        for (int many = 0; many <= MOST_ROOFS; many++) {
            int bits = leastColumns(wanted, many, COLUMNS);
            if (bits >= 0) {
                return bits;
            }
        }
        return NONE;
    }

    private int seenFromColumn(int column) {
        int bits = 0;
        for (int m = 0; m < METEORS; m++) {
            Meteor one = now.at(m);
            if (one != null && one.seenFrom(column, one.column) != 0) {
                bits |= 1 << m;
            }
        }
        return bits;
    }

    /** The highest column decides which bits are least, so it is the one that is tried from below. */
    private int leastColumns(int wanted, int many, int below) {
        if (many <= 0) {
            return wanted == 0 ? 0 : NONE;
        }
        for (int highest = many - 1; highest < below && highest < COLUMNS; highest++) {
            int others = leastColumns(wanted & ~covers[highest], many - 1, highest);
            if (others >= 0) {
                return others | 1 << highest;
            }
        }
        return NONE;
    }

    public int wed(int l) {
        if (!isBelow(l, LOOKERS)) {
            return NO_SUCH;
        }
        matchAll();
        return numberOrNone(wedTo[l]);
    }

    private void matchAll() {
        Arrays.fill(wedTo, NOBODY);
        Arrays.fill(asked, 0);
        Arrays.fill(keeps, NOBODY);
        // a turn in which somebody asks uses up one pair, so there are no more turns than pairs
        boolean goesOn = true;
        for (int turn = 0; turn < LOOKERS * METEORS && goesOn; turn++) {
            goesOn = false;
            for (int l = 0; l < LOOKERS; l++) {
                int m = wedTo[l] == NOBODY ? dearestNotAsked(l) : NOBODY;
                if (isBelow(m, METEORS)) {
                    asks(l, m);
                    goesOn = true;
                }
            }
        }
    }

    private int dearestNotAsked(int l) {
        int dearest = NOBODY;
        int heat = -1;
        for (int m = 0; m < METEORS; m++) {
            Meteor one = now.at(m);
            if (one != null && !hasBit(asked[l], m) && one.heat() > heat && now.yesStep(l, one) >= 0) {
                dearest = m;
                heat = one.heat();
            }
        }
        return dearest;
    }

    private void asks(int l, int m) {
        asked[l] |= 1 << m;
        int other = keeps[m];
        if (!isBelow(other, LOOKERS)) {
            keeps[m] = l;
            wedTo[l] = m;
        } else if (wouldRather(m, l, other)) {
            keeps[m] = l;
            wedTo[l] = m;
            wedTo[other] = NOBODY;
        }
    }

    private boolean wouldRather(int m, int l, int other) {
        int dear = now.isFor[m];
        if (dear == l || dear == other) {
            return dear == l;
        }
        if (now.quick[l] != now.quick[other]) {
            return now.quick[l] > now.quick[other];
        }
        return l < other;
    }

    public int rings(int what) {
        if (!isBelow(what, 2)) {
            return NO_SUCH;
        }
        int best = bestChange(0, now.saidYesTo());
        if (what == 0) {
            return best / RIGHT_ONE;
        }
        int lookers = LOOKERS - Integer.bitCount(now.lookersFree());
        return lookers - best % RIGHT_ONE;
    }

    /** RIGHT_ONE for each meteor had by whom it is for and 1 for each looker who keeps hers, at best, from l on. */
    private int bestChange(int l, int left) {
        if (l >= LOOKERS) {
            return 0;
        }
        if (now.said[l] == NOBODY) {
            return bestChange(l + 1, left);
        }
        int best = 0;
        for (int m = 0; m < METEORS; m++) {
            if (hasBit(left, m)) {
                int worth = (now.isFor[m] == l ? RIGHT_ONE : 0) + (now.said[l] == m ? 1 : 0);
                best = Math.max(best, worth + bestChange(l + 1, left & ~(1 << m)));
            }
        }
        return best;
    }

    // ---- curves, nights

    public int curve(int d, int what) {
        if (!isBelow(d, SHELVES) || !isBelow(what, 3)) {
            return NO_SUCH;
        }
        Row row = rowOn(d);
        if (row == null) {
            return whyNot(d);
        }
        int bits = 0;
        for (int m = 0; m < METEORS; m++) {
            Meteor one = now.at(m);
            if (one != null && goesAsTold(one, row)) {
                bits |= 1 << m;
            }
        }
        switch (what) {
            case 0: return bits;
            case 1: return Integer.bitCount(bits);
            default: return nextColumn(bits, row.length);
        }
    }

    private static boolean goesAsTold(Meteor one, Row row) {
        if (row.length > one.steps) {
            return false;
        }
        int skipped = row.least();
        for (int step = 0; step < row.length; step++) {
            int told = row.at(step);
            if (told != skipped && told != one.columnAt(one.column, step)) {
                return false;
            }
        }
        return true;
    }

    /** A meteor that lasts no longer than the row is over no column in the step behind it, and so tells none. */
    private int nextColumn(int bits, int step) {
        Arrays.fill(votes, 0);
        for (int m = 0; m < METEORS; m++) {
            Meteor one = now.at(m);
            int over = one != null && hasBit(bits, m) && step < one.steps ? one.columnAt(one.column, step) : NONE;
            if (isBelow(over, COLUMNS)) {
                votes[over]++;
            }
        }
        int next = NONE;
        int most = 0;
        for (int column = 0; column < COLUMNS; column++) {
            if (votes[column] > most) {
                next = column;
                most = votes[column];
            }
        }
        return next;
    }

    public int comes(int m, int v) {
        Meteor one = now.at(m);
        if (one == null || !isBelow(v, DAYS)) {
            return NO_SUCH;
        }
        for (int night = v; night < DAYS; night++) {
            if (one.isThereOn(night)) {
                return night;
            }
        }
        return NONE;
    }

    public int together(int m, int n) {
        Meteor one = now.at(m);
        Meteor other = now.at(n);
        if (one == null || other == null || m == n) {
            return NO_SUCH;
        }
        for (int night = 0; night < DAYS; night++) {
            if (one.isThereOn(night) && other.isThereOn(night)) {
                return night;
            }
        }
        return NONE;
    }

    public long clouds(int l, int m, int t, int part) {
        Meteor one = now.at(m);
        if (!isBelow(l, LOOKERS) || one == null || t < 2 || t > 20 || !isBelow(part, 2)) {
            return NO_SUCH_TOLD_AS_LONG;
        }
        int times = Integer.bitCount(one.seenFrom(now.roof[l], one.column));
        // 20 to the power of 14, the most steps there are, is still a long
        long below = 1;
        for (int k = 0; k < times; k++) {
            below *= t;
        }
        return inLeastTerms(waysOfEnough(times, Sky.need(now.quick[l]), t), below, part);
    }

    /** Of t to the power of times ways, of which t - 1 in t are clear each time, those clear often enough. */
    private static long waysOfEnough(int times, int need, int t) {
        long ways = 0;
        long choices = 1;
        long clear = 1;
        for (int k = 0; k <= times; k++) {
            if (k >= need) {
                ways += choices * clear;
            }
            choices = choices * (times - k) / (k + 1);
            clear *= t - 1;
        }
        return ways;
    }

    /** Some 90 turns are the most that two longs need; below is above 0, so what divides both is, too. */
    private static long inLeastTerms(long above, long below, int part) {
        long a = above;
        long b = below;
        for (int turn = 0; turn < 1000 && a != 0; turn++) {
            long rest = b % a;
            b = a;
            a = rest;
        }
        if (b <= 0) {
            return part == 0 ? above : below;
        }
        return part == 0 ? above / b : below / b;
    }

    public int darkOnes(int d, int what) {
        if (!isBelow(d, SHELVES) || !isBelow(what, 2)) {
            return NO_SUCH;
        }
        Row row = rowOn(d);
        if (row == null) {
            return whyNot(d);
        }
        if (row.length > NIGHTS || !row.isAllBelow(100)) {
            return NO_SUCH_PLACE;
        }
        int first = NONE;
        int allMore = 0;
        for (int night = 0; night < row.length; night++) {
            int more = meteorsOf(night) - row.at(night);
            if (more > 0) {
                allMore += more;
                first = first == NONE ? night : first;
            }
        }
        return what == 0 ? first : allMore;
    }

    private int meteorsOf(int night) {
        int many = 0;
        for (int m = 0; m < METEORS; m++) {
            Meteor one = now.at(m);
            if (one != null && one.night == night) {
                many++;
            }
        }
        return many;
    }

    public int game(int m, int a, int b, int what) {
        Meteor one = now.at(m);
        if (one == null || !isBelow(a, HIGHEST_BEGIN + 1) || !isBelow(b, HIGHEST_BEGIN + 1) || !isBelow(what, 2)) {
            return NO_SUCH;
        }
        int best = a;
        int most = -1;
        for (int i = 0; i < PLACES_TO_CHOOSE; i++) {
            int roof = a + i * BETWEEN_PLACES;
            int steps = fewestSteps(one, roof, b);
            if (steps > most) {
                best = roof;
                most = steps;
            }
        }
        return what == 0 ? most : best;
    }

    private static int fewestSteps(Meteor one, int roof, int b) {
        int fewest = one.steps;
        for (int i = 0; i < PLACES_TO_CHOOSE; i++) {
            int steps = Integer.bitCount(one.seenFrom(roof, b + i * BETWEEN_PLACES));
            fewest = Math.min(fewest, steps);
        }
        return fewest;
    }

    public int rowOfRoofs(int c) {
        if (!isBelow(c, COLUMNS - LOOKERS + 1)) {
            return NO_SUCH;
        }
        supposed.becomes(now);
        for (int l = 0; l < LOOKERS; l++) {
            supposed.roof[l] = c + l;
        }
        return supposed.takenOnes(false);
    }

    public int laws(int d, int f, int what) {
        if (!isBelow(d, SHELVES) || !isBelow(f, FIGURES) || !isBelow(what, 2)) {
            return NO_SUCH;
        }
        Row row = rowOn(d);
        if (row == null) {
            return whyNot(d);
        }
        if (row.length % 2 != 0) {
            return NO_SUCH_PLACE;
        }
        int bits = 0;
        for (int kind = 0; kind < KINDS; kind++) {
            if (obeys(madeOf(kind, f), row)) {
                bits |= 1 << kind;
            }
        }
        return what == 0 ? bits : Integer.bitCount(bits);
    }

    private static boolean obeys(Meteor one, Row pairs) {
        for (int i = 0; i < pairs.length; i += 2) {
            if (pairs.at(i) != one.lasts() || pairs.at(i + 1) != one.bright()) {
                return false;
            }
        }
        return true;
    }

    public int scorched(int l) {
        if (!isBelow(l, LOOKERS)) {
            return NO_SUCH;
        }
        Meteor one = now.at(now.said[l]);
        return one == null ? 0 : Math.max(0, one.heat() - now.quick[l]);
    }

    public long mean(int part) {
        if (!isBelow(part, 2)) {
            return NO_SUCH_TOLD_AS_LONG;
        }
        return inLeastTerms(now.allHeat(), Math.max(1, now.many), part);
    }

    // ---- told nights

    public int forged(int d) {
        if (!isBelow(d, SHELVES)) {
            return NO_SUCH;
        }
        Row row = rowOn(d);
        if (row == null) {
            return whyNot(d);
        }
        for (int m = 0; m < row.length; m++) {
            Meteor one = now.at(m);
            if (one == null || row.at(m) != now.firstOf(ALL_LOOKERS, one)) {
                return m;
            }
        }
        return NONE;
    }

    public int judge(int d, int v) {
        if (!isBelow(d, SHELVES) || !isBelow(v, DAYS)) {
            return NO_SUCH;
        }
        Row row = rowOn(d);
        if (row == null) {
            return whyNot(d);
        }
        for (int i = 0; i < row.length; i++) {
            if (row.at(i) != row.least() && row.at(i) != meteorsThereOn(v + i)) {
                return i;
            }
        }
        return NONE;
    }

    private int meteorsThereOn(int night) {
        int many = 0;
        for (int m = 0; m < METEORS; m++) {
            Meteor one = now.at(m);
            if (one != null && one.isThereOn(night)) {
                many++;
            }
        }
        return many;
    }

    public int augusts(int n, int z, int what) {
        if (n < 1 || n > 20 || !isBelow(what, 2)) {
            return NO_SUCH;
        }
        supposed.becomes(now);
        int seed = z;
        int taken = 0;
        for (int time = 0; time < n; time++) {
            for (int l = 0; l < LOOKERS; l++) {
                seed = nextSeed(seed);
                supposed.roof[l] = highBits(seed) % COLUMNS;
                seed = nextSeed(seed);
                supposed.quick[l] = highBits(seed) % QUICKS;
            }
            taken += supposed.takenOnes(what == 1);
        }
        return taken;
    }

    private static int nextSeed(int seed) {
        return seed * 1103515245 + 12345;
    }

    private static int highBits(int seed) {
        return (seed & 0x7fffffff) / 65536;
    }

    // ---- the image, what is told

    public int image() {
        imaged.becomes(now);
        imageTaken = true;
        return now.many;
    }

    public int restore() {
        if (!imageTaken) {
            return NOT_AS_IT_MUST_BE;
        }
        now.becomes(imaged);
        return now.many;
    }

    public int count(int what) {
        switch (what) {
            case 0: return now.many;
            case 1: return now.allHeat();
            case 2: return now.allSteps();
            case 3: return sum(now.quick);
            case 4: return sum(now.roof);
            case 5: return now.saidYesTo();
            default: return NO_SUCH;
        }
    }

    private static int sum(int[] numbers) {
        int all = 0;
        for (int number : numbers) {
            all += number;
        }
        return all;
    }

    // ---- shelves

    public int keep(int d, int what, int k, int figure) {
        if (!isBelow(d, SHELVES) || !isBelow(what, 2)) {
            return NO_SUCH;
        }
        if (what == 0) {
            held[d] = HOLDS_NOTHING;
            return 0;
        }
        if (!isBelow(k, KINDS) || !isBelow(figure, FIGURES)) {
            return NO_SUCH;
        }
        held[d] = HOLDS_METEOR;
        kept[d] = madeOf(k, figure);
        return 0;
    }

    public int row(int d, int sort, int n) {
        if (!isBelow(d, SHELVES) || !isBelow(sort, SORTS) || n > LONGEST_ROW) {
            return NO_SUCH;
        }
        if (n < 0) {
            return SIZE_BELOW_ZERO;
        }
        Row fresh = rows[d];
        if (fresh != null) {
            fresh.becomesNew(sort, n);
            held[d] = HOLDS_ROW;
        }
        return 0;
    }

    public int put(int d, int i, int v) {
        if (!isBelow(d, SHELVES)) {
            return NO_SUCH;
        }
        Row row = rowOn(d);
        if (row == null) {
            return whyNot(d);
        }
        if (!row.has(i)) {
            return NO_SUCH_PLACE;
        }
        row.set(i, v);
        return 0;
    }

    public long element(int d, int i) throws IllegalArgumentException, IllegalStateException {
        if (!isBelow(d, SHELVES)) {
            throw new IllegalArgumentException("no such shelf");
        }
        Row row = rowOn(d);
        if (row == null || !row.has(i)) {
            throw new IllegalStateException("no row, or no such place in it");
        }
        return row.at(i);
    }

    public int copy(int d, int i, int e, int j, int n) {
        if (!isBelow(d, SHELVES) || !isBelow(e, SHELVES)) {
            return NO_SUCH;
        }
        if (held[d] == HOLDS_NOTHING || held[e] == HOLDS_NOTHING) {
            return NOTHING_HELD;
        }
        Row from = rowOn(d);
        Row to = rowOn(e);
        if (from == null || to == null || from.sort != to.sort) {
            return OF_ANOTHER_KIND;
        }
        if (!from.hasPart(i, n) || !to.hasPart(j, n)) {
            return NO_SUCH_PLACE;
        }
        System.arraycopy(from.elements, i, to.elements, j, n);
        return n;
    }

    public int cost(int d) {
        if (!isBelow(d, SHELVES)) {
            return NO_SUCH;
        }
        Meteor one = meteorOn(d);
        return one == null ? whyNot(d) : one.costs();
    }

    public int toss(int d) {
        if (!isBelow(d, SHELVES)) {
            return NO_SUCH;
        }
        Meteor one = meteorOn(d);
        if (one == null) {
            return whyNot(d);
        }
        try {
            one.fail();
        } catch (UnsupportedOperationException longOne) {
            return 200 + one.costs();
        } catch (IllegalStateException slowOne) {
            return 100 + one.figure;
        } catch (IllegalArgumentException anyOther) {
            return one.figure;
        }
        return NO_FAILURE;
    }

    private Row rowOn(int d) {
        return held[d] == HOLDS_ROW ? rows[d] : null;
    }

    private Meteor meteorOn(int d) {
        return held[d] == HOLDS_METEOR ? kept[d] : null;
    }

    private int whyNot(int d) {
        return held[d] == HOLDS_NOTHING ? NOTHING_HELD : OF_ANOTHER_KIND;
    }

    private static boolean isBelow(int number, int limit) {
        return number >= 0 && number < limit;
    }

    private static boolean isSomebodyOrNobody(int l) {
        return isBelow(l, LOOKERS) || l == NOBODY;
    }

    private static boolean hasBit(int bits, int place) {
        return (bits >> place & 1) != 0;
    }

    private static int numberOrNone(int number) {
        return number == NOBODY ? NONE : number;
    }

    private static Meteor madeOf(int kind, int figure) {
        switch (kind) {
            case 1: return new Slow(kind, figure);
            case 2: return new Dark(kind, figure);
            case 3: return new Ball(kind, figure);
            case 4: return new LongOne(kind, figure);
            case 5: return new Slate(kind, figure);
            case 6: return new Twin(kind, figure);
            case 7: return new Kept(kind, figure);
            default: return new Meteor(kind, figure);
        }
    }

    /** A kind is under the class it extends: what it does not say itself is as there. */
    private static class Meteor {
        final int kind;
        final int figure;
        int column;
        int slope;
        int night;
        /** LASTS and BRIGHT once it falls, so that looking at each step does not go through the kinds again. */
        int steps;
        int reach;

        Meteor(int kind, int figure) {
            this.kind = kind;
            this.figure = figure;
        }

        int lasts() {
            return 3 + figure / 3;
        }

        int bright() {
            return 2;
        }

        int period() {
            return 3 + figure;
        }

        int heat() {
            return figure;
        }

        int costs() {
            return 4;
        }

        /** Which exception it is tells whose failure it is; one that has none comes back. */
        void fail() {
            if (figure != 0) {
                throw new IllegalArgumentException("the failure of a meteor");
            }
        }

        final void begins(int overColumn, int withSlope, int inNight) {
            column = overColumn;
            slope = withSlope;
            night = inNight;
            steps = lasts();
            reach = bright();
        }

        final int columnAt(int start, int step) {
            int over = start + step * (slope - 2);
            if (over < 0) {
                return 0;
            }
            return over < COLUMNS ? over : COLUMNS - 1;
        }

        final int seenFrom(int roof, int start) {
            int bits = 0;
            for (int step = 0; step < steps; step++) {
                if (Math.abs(columnAt(start, step) - roof) <= reach) {
                    bits |= 1 << step;
                }
            }
            return bits;
        }

        final int yesFrom(int roof, int need) {
            int times = 0;
            for (int step = 0; step < steps; step++) {
                if (Math.abs(columnAt(column, step) - roof) <= reach) {
                    times++;
                    if (times == need) {
                        return step;
                    }
                }
            }
            return NONE;
        }

        final boolean isThereOn(int someNight) {
            int nights = period();
            return someNight >= night && nights > 0 && (someNight - night) % nights == 0;
        }
    }

    private static class Slow extends Meteor {
        Slow(int kind, int figure) {
            super(kind, figure);
        }

        int lasts() {
            return 2 * super.lasts();
        }

        int bright() {
            return super.bright() - 1;
        }

        int period() {
            return super.period() + 2;
        }

        int costs() {
            return super.costs() + figure;
        }

        void fail() {
            if (figure != 0) {
                throw new IllegalStateException("the failure of a slow one");
            }
        }
    }

    private static class Dark extends Meteor {
        Dark(int kind, int figure) {
            super(kind, figure);
        }

        int bright() {
            return -1;
        }

        int period() {
            return 2 * super.period();
        }

        int costs() {
            return 1;
        }

        void fail() {
            // dark ones, and slates with them, have no failure
        }
    }

    private static class Ball extends Meteor {
        Ball(int kind, int figure) {
            super(kind, figure);
        }

        int lasts() {
            return super.lasts() - 1;
        }

        int bright() {
            return super.bright() + figure / 2;
        }

        int heat() {
            return super.heat() + figure;
        }

        int costs() {
            return 2 * super.costs();
        }
    }

    private static final class LongOne extends Slow {
        LongOne(int kind, int figure) {
            super(kind, figure);
        }

        int lasts() {
            return super.lasts() + 2;
        }

        int heat() {
            return Math.max(0, super.heat() - 3);
        }

        int costs() {
            return super.costs() + 3;
        }

        void fail() {
            if (figure != 0) {
                throw new UnsupportedOperationException("the failure of a long one");
            }
        }
    }

    private static final class Slate extends Dark {
        Slate(int kind, int figure) {
            super(kind, figure);
        }

        int bright() {
            return super.bright() + 1;
        }

        int heat() {
            return 0;
        }

        int costs() {
            return super.costs() + figure;
        }
    }

    private static final class Twin extends Meteor {
        Twin(int kind, int figure) {
            super(kind, figure);
        }

        int lasts() {
            return super.lasts() + figure / 2;
        }

        int period() {
            return figure >= 7 ? 7 : super.period();
        }

        int costs() {
            return super.costs() + 2;
        }
    }

    private static final class Kept extends Ball {
        Kept(int kind, int figure) {
            super(kind, figure);
        }

        int lasts() {
            return 1;
        }

        int bright() {
            return 2 * super.bright();
        }

        int period() {
            return 1;
        }

        int heat() {
            return super.heat() / 2;
        }

        int costs() {
            return super.costs() / 2;
        }
    }

    /** All that an image holds: the meteors that have come, whom each is for, and the lookers. */
    private static final class Sky {
        /** A meteor never changes once it falls, so skies may share it. */
        final Meteor[] meteors = new Meteor[METEORS];
        final int[] isFor = new int[METEORS];
        final int[] roof = new int[LOOKERS];
        final int[] quick = new int[LOOKERS];
        final int[] said = new int[LOOKERS];
        int many;

        Sky() {
            for (int l = 0; l < LOOKERS; l++) {
                roof[l] = 3 * l;
                quick[l] = 5;
                said[l] = NOBODY;
            }
        }

        void becomes(Sky other) {
            many = other.many;
            for (int m = 0; m < METEORS; m++) {
                meteors[m] = other.meteors[m];
                isFor[m] = other.isFor[m];
            }
            for (int l = 0; l < LOOKERS; l++) {
                roof[l] = other.roof[l];
                quick[l] = other.quick[l];
                said[l] = other.said[l];
            }
        }

        Meteor at(int m) {
            return m >= 0 && m < many && m < METEORS ? meteors[m] : null;
        }

        int add(Meteor one, int whom) {
            if (many >= METEORS) {
                return NO_ROOM;
            }
            meteors[many] = one;
            isFor[many] = whom;
            many++;
            return many - 1;
        }

        int putOnRoof(int l, int itsColumn, int howQuick) {
            if (!isBelow(l, LOOKERS) || !isBelow(itsColumn, COLUMNS) || !isBelow(howQuick, QUICKS)) {
                return NO_SUCH;
            }
            int was = roof[l];
            roof[l] = itsColumn;
            quick[l] = howQuick;
            return was;
        }

        int setFree(int l) {
            if (!isBelow(l, LOOKERS)) {
                return NO_SUCH;
            }
            int was = said[l];
            said[l] = NOBODY;
            return was;
        }

        static int need(int quick) {
            return 4 - quick / 3;
        }

        int yesStep(int l, Meteor one) {
            return one.yesFrom(roof[l], need(quick[l]));
        }

        boolean isSeenByAny(Meteor one) {
            for (int l = 0; l < LOOKERS; l++) {
                if (one.seenFrom(roof[l], one.column) != 0) {
                    return true;
                }
            }
            return false;
        }

        /** Which of some lookers (bits) says yes first, or NOBODY. */
        int firstOf(int lookers, Meteor one) {
            int first = NOBODY;
            int least = 0;
            for (int l = 0; l < LOOKERS; l++) {
                int step = hasBit(lookers, l) ? yesStep(l, one) : NONE;
                if (step >= 0 && (first == NOBODY || step < least)) {
                    first = l;
                    least = step;
                }
            }
            return first;
        }

        int takenOnes(boolean onlyByWhomTheyAreFor) {
            int taken = 0;
            for (int m = 0; m < METEORS; m++) {
                Meteor one = at(m);
                int first = one == null ? NOBODY : firstOf(ALL_LOOKERS, one);
                if (first != NOBODY && (!onlyByWhomTheyAreFor || first == isFor[m])) {
                    taken++;
                }
            }
            return taken;
        }

        int runNight(int night) {
            if (!isBelow(night, NIGHTS)) {
                return NO_SUCH;
            }
            int before = saidYesTo();
            int yeses = 0;
            for (int m = 0; m < METEORS; m++) {
                Meteor one = at(m);
                if (one == null || one.night != night || hasBit(before, m)) {
                    continue;
                }
                int first = firstOf(lookersFree(), one);
                if (isBelow(first, LOOKERS)) {
                    said[first] = m;
                    yeses++;
                }
            }
            return yeses;
        }

        int lookersFree() {
            int bits = 0;
            for (int l = 0; l < LOOKERS; l++) {
                if (said[l] == NOBODY) {
                    bits |= 1 << l;
                }
            }
            return bits;
        }

        int saidYesTo() {
            int bits = 0;
            for (int l = 0; l < LOOKERS; l++) {
                if (isBelow(said[l], METEORS)) {
                    bits |= 1 << said[l];
                }
            }
            return bits;
        }

        int mistaken() {
            int bits = 0;
            for (int l = 0; l < LOOKERS; l++) {
                int m = said[l];
                if (isBelow(m, METEORS) && isFor[m] != l) {
                    bits |= 1 << m;
                }
            }
            return bits;
        }

        int allHeat() {
            int all = 0;
            for (int m = 0; m < METEORS; m++) {
                Meteor one = at(m);
                all += one == null ? 0 : one.heat();
            }
            return all;
        }

        int allSteps() {
            int all = 0;
            for (int m = 0; m < METEORS; m++) {
                Meteor one = at(m);
                all += one == null ? 0 : one.steps;
            }
            return all;
        }
    }

    private static final class Row {
        final int[] elements = new int[LONGEST_ROW];
        int sort;
        int length;

        void becomesNew(int itsSort, int itsLength) {
            sort = itsSort;
            length = Math.max(0, Math.min(LONGEST_ROW, itsLength));
            Arrays.fill(elements, 0);
        }

        boolean has(int i) {
            return i >= 0 && i < length;
        }

        /** Told without a sum of the two, which could wrap around. */
        boolean hasPart(int i, int n) {
            return i >= 0 && n >= 0 && n <= length && i <= length - n;
        }

        /** Behind the end stands 0, with which no text goes on. */
        int at(int i) {
            return has(i) ? elements[i] : 0;
        }

        void set(int i, int v) {
            if (has(i)) {
                elements[i] = lowestBits(v);
            }
        }

        private int lowestBits(int v) {
            switch (sort) {
                case BYTES: return (byte) v;
                case SHORTS: return (short) v;
                default: return v;
            }
        }

        int least() {
            switch (sort) {
                case BYTES: return -128;
                case SHORTS: return -32768;
                default: return 0x80000000;
            }
        }

        boolean isAllBelow(int limit) {
            for (int i = 0; i < length; i++) {
                if (!isBelow(at(i), limit)) {
                    return false;
                }
            }
            return true;
        }
    }

    /** Reads the text of a sky: first whether each byte can stand where it does, then what it tells. */
    private static final class SkyText {

        /** The place of the first byte with which no text goes on, or NONE. */
        static int firstWrongByte(Row text) {
            if (text.length == 0) {
                return 0;
            }
            int place = 0;
            while (place < text.length) {
                int digits = digitsBehind(text.at(place));
                if (digits == 0) {
                    return place;
                }
                place++;
                int behindDigits = place + digits;
                while (place < behindDigits) {
                    if (text.at(place) < '0' || text.at(place) > '9') {
                        return place;
                    }
                    place++;
                }
                if (text.at(place) != ';') {
                    return place;
                }
                place++;
            }
            return NONE;
        }

        /** Between them and the letter stands nothing, behind them one sign more. */
        static int digitsBehind(int letter) {
            switch (letter) {
                case 'm': return 8;
                case 'l': return 4;
                case 'r': return 2;
                case 'f': return 1;
                default: return 0;
            }
        }

        /** The statement whose letter stands at a place, told to a sky, if it is as it must be. */
        static boolean isTold(Row text, int place, Sky sky) {
            switch (text.at(place)) {
                case 'm':
                    return isMeteorTold(text, place, sky);
                case 'l':
                    int roof = twoDigits(text, place + 2);
                    return sky.putOnRoof(digit(text, place + 1), roof, digit(text, place + 4)) >= 0;
                case 'r':
                    return sky.runNight(twoDigits(text, place + 1)) >= 0;
                case 'f':
                    return sky.setFree(digit(text, place + 1)) >= 0;
                default:
                    return false;
            }
        }

        private static boolean isMeteorTold(Row text, int place, Sky sky) {
            int kind = digit(text, place + 1);
            int column = twoDigits(text, place + 3);
            int slope = digit(text, place + 5);
            int night = twoDigits(text, place + 6);
            int whom = digit(text, place + 8);
            if (!isBelow(kind, KINDS) || !isBelow(column, COLUMNS) || !isBelow(slope, SLOPES)
                    || !isBelow(night, NIGHTS) || !isSomebodyOrNobody(whom)) {
                return false;
            }
            Meteor one = madeOf(kind, digit(text, place + 2));
            one.begins(column, slope, night);
            return sky.add(one, whom) >= 0;
        }

        private static int digit(Row text, int place) {
            return text.at(place) - '0';
        }

        private static int twoDigits(Row text, int place) {
            return 10 * digit(text, place) + digit(text, place + 1);
        }
    }
}
