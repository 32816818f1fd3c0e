import java.util.Arrays;

/**
 * The king's court: THINGS that give to TRAITS, CLAUSES that a WAY must meet,
 * BORDERS by which a TRAIT is MUCH or LITTLE, and what follows from them.
 */
public final class NeitherBare {
    public static final int BAD = -1, FULL = -2, FINDING = -3, STATE = -4, SPENT = -6, NONE = -9;

    private static final int NOTHING = 1, BEYOND = 2, UNLIKE = 3, NOUGHT = 4, SIZE = 5;
    private static final int ROWS = 6, ROW_MOST = 40, TEXTS = 4, TEXT_MOST = 80, BLANK = 32;
    private static final int TRAITS = 4, VALUE_MOST = 5, GIVEN = 5, COST = 4;
    private static final int THINGS_MOST = 6, WAYS_MOST = 64, CLAUSES_MOST = 8;
    private static final int DEEDS_MOST = 40, PLACES = 3, TURNS_MOST = 3;
    private static final int LOWER_FIRST = 1, UPPER_FIRST = 4;
    private static final int CLAUSE = 0, NEITHER = 1, BOTH = 2, UNDONE = 3, HALF = 4, BUT = 5;
    private static final int LETTER_OF_THING = 116, FIGURE_0 = 48;
    private static final int[] LETTERS = {99, 110, 98, 117, 104, 120};
    private static final int[] PARENTS = {NONE, CLAUSE, CLAUSE, CLAUSE, NEITHER, BOTH};
    // WAYS (bits of a long) that lack THING 0, 1, ..
    private static final long[] WITHOUT = {0x5555555555555555L, 0x3333333333333333L, 0x0F0F0F0F0F0F0F0FL,
        0x00FF00FF00FF00FFL, 0x0000FFFF0000FFFFL, 0x00000000FFFFFFFFL};
    private static final int ONLY_SO = 1000, PUT_MORE = 1000, DOZEN = 12, LOTS_MOST = 40;
    private static final long LOT_TIMES = 48271L, LOT_MODULUS = 2147483647L;
    private static final int COUNTS = 9;

    private final Shelf rows = new Shelf(ROWS, ROW_MOST, 0);
    private final Shelf texts = new Shelf(TEXTS, TEXT_MOST, BLANK);
    private Court court = new Court();
    // What a TEXT tells is read into here first, so that a FAULT leaves the COURT as it is.
    private Court draft = new Court();
    private final Standing now = new Standing();
    private final Standing[] kept = new Standing[PLACES];
    private final int[] masks = new int[WAYS_MOST];
    private final int[] trial = new int[2 * TRAITS];
    private final int[] found = new int[SIZE + 1];
    private int latest;
    private int told;
    private long chanceUpper;
    private long chanceLower = 1L;

    public NeitherBare() {
        for (int k = 0; k < PLACES; k++) {
            kept[k] = new Standing();
        }
        now.beginWith(0);
    }

    // ---- 1 rows, texts, courts

    public int row(int r, int n) {
        return make(rows, r, n);
    }

    public int lay(int r, int i, int v) {
        int refused = refusedCell(rows, r, i);
        if (refused != 0) {
            return refused;
        }
        told = rows.cellOf(r, i);
        rows.setCell(r, i, v);
        return 1;
    }

    public int at(int r, int i) {
        int refused = refusedCell(rows, r, i);
        if (refused != 0) {
            return refused;
        }
        told = rows.cellOf(r, i);
        return 1;
    }

    public int tear(int r) {
        int refused = refusedPlace(rows, r);
        if (refused != 0) {
            return refused;
        }
        rows.remove(r);
        return 1;
    }

    public int copy(int r, int i, int to, int j, int n) {
        if (!rows.isPlace(r) || !rows.isPlace(to)) {
            return BAD;
        }
        if (n < 0) {
            return refuse(SIZE);
        }
        if (!rows.isThere(r) || !rows.isThere(to)) {
            return refuse(NOTHING);
        }
        if (!rows.hasStretch(r, i, n) || !rows.hasStretch(to, j, n)) {
            return refuse(BEYOND);
        }
        rows.moveStretch(r, i, to, j, n);
        return 1;
    }

    public int mean(int r) {
        int refused = refusedPlace(rows, r);
        if (refused != 0) {
            return refused;
        }
        int size = rows.sizeOf(r);
        if (size <= 0) {
            return refuse(NOUGHT);
        }
        long sum = 0L;
        for (int i = 0; i < size; i++) {
            sum += rows.cellOf(r, i);
        }
        told = (int) (sum / size);
        return 1;
    }

    public int text(int t, int n) {
        return make(texts, t, n);
    }

    public int put(int t, int i, int v) {
        int refused = refusedCell(texts, t, i);
        if (refused != 0) {
            return refused;
        }
        int was = texts.cellOf(t, i);
        texts.setCell(t, i, (byte) v);
        return was + PUT_MORE;
    }

    public int fault(int t) {
        int refused = refusedPlace(texts, t);
        if (refused != 0) {
            return refused;
        }
        return draft.readFrom(texts, t);
    }

    public int court(int t) {
        int refused = refusedPlace(texts, t);
        if (refused != 0) {
            return refused;
        }
        if (draft.readFrom(texts, t) != NONE) {
            return STATE;
        }
        Court before = court;
        court = draft;
        draft = before;
        court.addUp();
        now.beginWith(court.clauses);
        for (int k = 0; k < PLACES; k++) {
            kept[k].isThere = false;
        }
        return court.things;
    }

    public int thing(int i, int what) {
        if (i < 0 || i >= court.things || what < 0 || what >= GIVEN) {
            return BAD;
        }
        told = court.given[i * GIVEN + what];
        return 1;
    }

    public int clause(int k, int what) {
        if (!isClause(k) || what < 0 || what > 4) {
            return BAD;
        }
        told = clauseNumber(k, what);
        return 1;
    }

    public int mark(int k, int kind) {
        if (!isClause(k) || kind < NEITHER || kind > BUT) {
            return BAD;
        }
        if (!isOfKind(court.kind[k], kind)) {
            return refuse(UNLIKE);
        }
        int first = court.trait[k];
        int second = court.secondOf(k);
        switch (kind) {
            case NEITHER:
                return now.upperOf(first) - now.lowerOf(first) - 1;
            case BOTH:
                return Math.max(now.upperOf(first), now.upperOf(second));
            case UNDONE:
                return makersOf(first);
            case HALF:
                return halfOf(first);
            default:
                return littleWays(second);
        }
    }

    public int border(int trait, int which) {
        if (!isTrait(trait) || !isFlag(which)) {
            return BAD;
        }
        return now.border[2 * trait + which];
    }

    // ---- 2 deeds

    public int strike(int k, int is) {
        if (!isClause(k) || !isFlag(is)) {
            return BAD;
        }
        if (now.isOn(k) == (is == 0)) {
            return STATE;
        }
        if (now.deeds >= DEEDS_MOST) {
            return FULL;
        }
        now.doClause(k, is == 0);
        return Integer.bitCount(now.on);
    }

    public int move(int trait, int which, int v) {
        if (!isBorder(trait, which, v)) {
            return BAD;
        }
        int was = now.border[2 * trait + which];
        if (was == v || !staysBelow(trait, which, v)) {
            return STATE;
        }
        if (now.deeds >= DEEDS_MOST) {
            return FULL;
        }
        now.doBorder(2 * trait + which, v);
        return was;
    }

    public int undo(int n) {
        if (n < 0 || n > now.deeds) {
            return BAD;
        }
        int many = now.deeds - n;
        now.takeBackTo(n);
        return many;
    }

    public int keep(int k) {
        if (!isKeepingPlace(k)) {
            return BAD;
        }
        if (court.things == 0) {
            return STATE;
        }
        kept[k].takeFrom(now);
        kept[k].isThere = true;
        return now.deeds;
    }

    public int on(int k) {
        if (!isKeepingPlace(k)) {
            return BAD;
        }
        if (!kept[k].isThere) {
            return refuse(NOTHING);
        }
        now.takeFrom(kept[k]);
        return now.deeds;
    }

    // ---- 3 ways

    public int value(int way, int trait) {
        if (!court.isWay(way) || !isTrait(trait)) {
            return BAD;
        }
        return court.valueOf(way, trait);
    }

    public int cost(int way) {
        if (!court.isWay(way)) {
            return BAD;
        }
        return court.sumOf(way, COST);
    }

    public int holds(int way) {
        if (!court.isWay(way)) {
            return BAD;
        }
        int bits = court.heldBy(way, now.border);
        told = isMet(bits, now.on) ? 1 : 0;
        return bits;
    }

    public int good() {
        if (court.things == 0) {
            return STATE;
        }
        judgeWays(now.border);
        int many = 0;
        int first = NONE;
        for (int way = court.ways() - 1; way >= 0; way--) {
            if (isMet(masks[way], now.on)) {
                many++;
                first = way;
            }
        }
        told = first;
        return many;
    }

    public int cheapest() {
        if (court.things == 0) {
            return STATE;
        }
        judgeWays(now.border);
        int way = cheapestBy(now.on);
        if (way != NONE) {
            told = court.sumOf(way, COST);
        }
        return way;
    }

    public int fewest() {
        if (court.things == 0) {
            return STATE;
        }
        judgeWays(now.border);
        int best = NONE;
        int least = THINGS_MOST + 1;
        for (int way = 0; way < court.ways(); way++) {
            int many = Integer.bitCount(way);
            if (many < least && isMet(masks[way], now.on)) {
                best = way;
                least = many;
            }
        }
        if (best != NONE) {
            told = least;
        }
        return best;
    }

    public int nearest() {
        if (court.things == 0) {
            return STATE;
        }
        judgeWays(now.border);
        int best = 0;
        int most = -1;
        for (int way = 0; way < court.ways(); way++) {
            int many = Integer.bitCount(masks[way] & now.on);
            if (many > most) {
                best = way;
                most = many;
            }
        }
        told = most;
        return best;
    }

    public int tight(int way) {
        if (!court.isWay(way)) {
            return BAD;
        }
        if (!isGood(way)) {
            return 0;
        }
        for (int i = 0; i < court.things; i++) {
            if (hasBit(way, i) && isGood(way & ~(1 << i))) {
                return 0;
            }
        }
        return 1;
    }

    // ---- 4 clashes

    public int clash(int set) {
        if (set < 0 || set >= court.clauseSets()) {
            return BAD;
        }
        if (court.things == 0) {
            return STATE;
        }
        judgeWays(now.border);
        return isClash(set) ? 1 : 0;
    }

    public int two() {
        if (court.things == 0) {
            return STATE;
        }
        judgeWays(now.border);
        int first = NONE;
        int many = 0;
        for (int set = court.clauseSets() - 1; set > 0; set--) {
            if (Integer.bitCount(set) <= 2 && isClash(set)) {
                first = set;
                many++;
            }
        }
        told = many;
        return first;
    }

    public int least() {
        if (court.things == 0) {
            return STATE;
        }
        judgeWays(now.border);
        int fewestSoFar = CLAUSES_MOST + 1;
        int which = NONE;
        for (int set = 1; set < court.clauseSets(); set++) {
            int many = Integer.bitCount(set);
            if (many < fewestSoFar && isClash(set)) {
                fewestSoFar = many;
                which = set;
            }
        }
        if (which == NONE) {
            return NONE;
        }
        told = which;
        return fewestSoFar;
    }

    public int relent() {
        if (court.things == 0) {
            return STATE;
        }
        judgeWays(now.border);
        int best = now.on;
        for (int way = 0; way < court.ways(); way++) {
            best = smallerSet(best, now.on & ~masks[way]);
        }
        told = best;
        return Integer.bitCount(best);
    }

    // ---- 5 by turns

    public int game(int n) {
        if (n < 0 || n > TURNS_MOST) {
            return BAD;
        }
        if (court.things == 0) {
            return STATE;
        }
        judgeWays(now.border);
        return hasWayOfNone(winningWays(n, 0)) ? 1 : 0;
    }

    public int names(int n) {
        if (n < 1 || n > TURNS_MOST) {
            return BAD;
        }
        if (court.things == 0) {
            return STATE;
        }
        judgeWays(now.border);
        for (int k = 0; k < court.clauses; k++) {
            if (now.isOn(k) && !hasWayOfNone(waysAhead(winningWays(n - 1, 1 << k)))) {
                return k;
            }
        }
        return NONE;
    }

    // ---- 6 rulings

    public int contradict(int r) {
        int refused = refusedRulings(r);
        if (refused != 0) {
            return refused;
        }
        int rulings = rows.sizeOf(r) / 3;
        int many = 0;
        int first = NONE;
        for (int i = rulings - 1; i >= 0; i--) {
            for (int j = rulings - 1; j > i; j--) {
                if (isContradiction(r, i, j)) {
                    many++;
                    first = 100 * i + j;
                }
            }
        }
        told = first;
        return many;
    }

    public int fix(int r) {
        int refused = refusedRulings(r);
        if (refused != 0) {
            return refused;
        }
        int all = 0;
        for (int trait = 0; trait < TRAITS; trait++) {
            all |= struckOfTrait(r, trait);
        }
        told = all;
        return Integer.bitCount(all);
    }

    public int follows(int r, int trait, int value) {
        if (!isTrait(trait) || !isValue(value)) {
            return BAD;
        }
        int refused = refusedRulings(r);
        if (refused != 0) {
            return refused;
        }
        boolean isLess = false;
        for (int i = 0; i < rows.sizeOf(r) / 3; i++) {
            if (rows.cellOf(r, 3 * i) == trait) {
                int ruled = rows.cellOf(r, 3 * i + 1);
                boolean much = rows.cellOf(r, 3 * i + 2) == 1;
                if (much && ruled <= value) {
                    return 1;
                }
                isLess |= !much && ruled >= value;
            }
        }
        return isLess ? 0 : NONE;
    }

    public int borders(int r, int trait) {
        if (!isTrait(trait)) {
            return BAD;
        }
        int refused = refusedRulings(r);
        if (refused != 0) {
            return refused;
        }
        int bits = 0;
        for (int upper = 1; upper <= VALUE_MOST; upper++) {
            if (ruledOtherwise(r, trait, upper) == 0) {
                bits |= 1 << upper;
            }
        }
        return bits;
    }

    // ---- 7 loopholes, what falls

    public int worth(int k) {
        if (!isClause(k)) {
            return BAD;
        }
        if (court.things == 0) {
            return STATE;
        }
        if (!now.isOn(k)) {
            return 0;
        }
        judgeWays(now.border);
        int wayWithout = cheapestBy(now.on & ~(1 << k));
        if (wayWithout == NONE) {
            return NONE;
        }
        int way = cheapestBy(now.on);
        if (way == NONE) {
            return ONLY_SO;
        }
        return court.sumOf(way, COST) - court.sumOf(wayWithout, COST);
    }

    public int falls(int trait, int which, int v) {
        if (!isBorder(trait, which, v)) {
            return BAD;
        }
        if (!staysBelow(trait, which, v)) {
            return STATE;
        }
        copyBordersToTrial();
        trial[2 * trait + which] = v;
        int fallen = 0;
        int risen = 0;
        for (int way = 0; way < court.ways(); way++) {
            boolean before = isGood(way);
            boolean then = isMet(court.heldBy(way, trial), now.on);
            if (before && !then) {
                fallen++;
            }
            if (!before && then) {
                risen++;
            }
        }
        told = risen;
        return fallen;
    }

    public int kinds(int k, int many) {
        if (!isClause(k) || many < 0 || many > WAYS_MOST) {
            return BAD;
        }
        int bits = 0;
        for (int kind = CLAUSE; kind <= BUT; kind++) {
            if (waysHeld(k, kind) == many) {
                bits |= 1 << kind;
            }
        }
        return bits;
    }

    public int judged(int k, int r) {
        if (!isClause(k)) {
            return BAD;
        }
        int refused = refusedJudgements(r);
        if (refused != 0) {
            return refused;
        }
        copyBordersToTrial();
        int trait = court.trait[k];
        int many = 0;
        int first = NONE;
        for (int lower = VALUE_MOST - 1; lower >= 0; lower--) {
            for (int upper = VALUE_MOST; upper > lower; upper--) {
                trial[2 * trait] = lower;
                trial[2 * trait + 1] = upper;
                if (isJudgedByTrial(k, r)) {
                    many++;
                    first = 10 * lower + upper;
                }
            }
        }
        told = first;
        return many;
    }

    // ---- 8 chances, lots

    public int odds(int way, int p) {
        if (!court.isWay(way) || p < 0 || p > DOZEN) {
            return BAD;
        }
        int unmet = Integer.bitCount(now.on & ~court.heldBy(way, now.border));
        long above = 1L;
        long below = 1L;
        for (int i = 0; i < unmet; i++) {
            above *= p;
            below *= DOZEN;
        }
        tellChance(above, below);
        return 1;
    }

    public int luck() {
        if (court.things == 0) {
            return STATE;
        }
        int many = 0;
        for (int way = 0; way < court.ways(); way++) {
            if (isGood(way)) {
                many++;
            }
        }
        tellChance(many, court.ways());
        return 1;
    }

    public int lots(int n, int seed) {
        if (n < 1 || n > LOTS_MOST || seed < 1 || seed >= LOT_MODULUS) {
            return BAD;
        }
        if (court.things == 0) {
            return STATE;
        }
        long number = seed;
        int many = 0;
        for (int i = 0; i < n; i++) {
            number = number * LOT_TIMES % LOT_MODULUS;
            // There are a power of two of WAYS, so the lowest bits are the rest.
            int way = (int) (number / 16) & (court.ways() - 1);
            if (isGood(way)) {
                many++;
            }
        }
        return many;
    }

    // ---- 9 what is told

    public int asked() {
        return told;
    }

    public long upper() {
        return chanceUpper;
    }

    public long lower() {
        return chanceLower;
    }

    public int count(int what) {
        if (what < 0 || what >= COUNTS) {
            return BAD;
        }
        return countNumber(what);
    }

    public int finding() {
        return latest;
    }

    public int findings(int f) {
        if (f < NOTHING || f > SIZE) {
            return BAD;
        }
        return found[f];
    }

    public long digest() {
        long h = 17L;
        for (int what = 0; what < COUNTS; what++) {
            h = mixed(h, countNumber(what));
        }
        for (int b = 0; b < 2 * TRAITS; b++) {
            h = mixed(h, now.border[b]);
        }
        for (int i = 0; i < court.things * GIVEN; i++) {
            h = mixed(h, court.given[i]);
        }
        for (int k = 0; k < court.clauses; k++) {
            for (int what = 0; what <= 4; what++) {
                h = mixed(h, clauseNumber(k, what));
            }
        }
        for (int k = 0; k < PLACES; k++) {
            h = mixed(h, kept[k].isThere ? kept[k].deeds : -1);
        }
        return texts.mixInto(rows.mixInto(h));
    }

    // ---- what is refused, what is one

    private int refuse(int finding) {
        latest = finding;
        found[finding]++;
        return FINDING;
    }

    private int make(Shelf shelf, int place, int n) {
        if (!shelf.isPlace(place) || n > shelf.width) {
            return BAD;
        }
        if (n < 0) {
            return refuse(SIZE);
        }
        shelf.lieAnew(place, n);
        return n;
    }

    /** BAD or FINDING if there is no such ROW or TEXT, else 0. */
    private int refusedPlace(Shelf shelf, int place) {
        if (!shelf.isPlace(place)) {
            return BAD;
        }
        return shelf.isThere(place) ? 0 : refuse(NOTHING);
    }

    private int refusedCell(Shelf shelf, int place, int i) {
        int refused = refusedPlace(shelf, place);
        if (refused != 0) {
            return refused;
        }
        return shelf.hasStretch(place, i, 1) ? 0 : refuse(BEYOND);
    }

    private boolean isClause(int k) {
        return k >= 0 && k < court.clauses;
    }

    private static boolean isTrait(int trait) {
        return trait >= 0 && trait < TRAITS;
    }

    private static boolean isFlag(int v) {
        return v == 0 || v == 1;
    }

    private static boolean isValue(int v) {
        return v >= 0 && v <= VALUE_MOST;
    }

    private static boolean isKeepingPlace(int k) {
        return k >= 0 && k < PLACES;
    }

    private static boolean isBorder(int trait, int which, int v) {
        return isTrait(trait) && isFlag(which) && v >= which && v < VALUE_MOST + which;
    }

    private boolean staysBelow(int trait, int which, int v) {
        return which == 0 ? v < now.upperOf(trait) : now.lowerOf(trait) < v;
    }

    private static boolean hasBit(int set, int i) {
        return (set >> i & 1) == 1;
    }

    private static boolean isMet(int bits, int wanted) {
        return (bits & wanted) == wanted;
    }

    private static boolean isOfKind(int own, int kind) {
        return own == kind || PARENTS[own] == kind;
    }

    // ---- clauses and ways

    private int clauseNumber(int k, int what) {
        switch (what) {
            case 0:
                return court.kind[k];
            case 1:
                return court.trait[k];
            case 2:
                return court.other[k];
            case 3:
                return now.isOn(k) ? 1 : 0;
            default:
                return waysHeld(k, court.kind[k]);
        }
    }

    private int waysHeld(int k, int kind) {
        int many = 0;
        for (int way = 0; way < court.ways(); way++) {
            if (court.isHeldAs(kind, k, way, now.border)) {
                many++;
            }
        }
        return many;
    }

    private int makersOf(int trait) {
        int many = 0;
        for (int i = 0; i < court.things; i++) {
            if (court.valueOf(1 << i, trait) >= now.upperOf(trait)) {
                many++;
            }
        }
        return many;
    }

    private int halfOf(int trait) {
        int half = (now.lowerOf(trait) + now.upperOf(trait)) / 2;
        return half > now.lowerOf(trait) ? half : NONE;
    }

    private int littleWays(int trait) {
        int many = 0;
        for (int way = 0; way < court.ways(); way++) {
            if (court.valueOf(way, trait) <= now.lowerOf(trait)) {
                many++;
            }
        }
        return many;
    }

    private boolean isGood(int way) {
        return isMet(court.heldBy(way, now.border), now.on);
    }

    private void judgeWays(int[] border) {
        for (int way = 0; way < court.ways(); way++) {
            masks[way] = court.heldBy(way, border);
        }
    }

    /** By the masks of judgeWays(): the cheapest WAY that meets these CLAUSES, or NONE. */
    private int cheapestBy(int clauses) {
        int best = NONE;
        int least = Integer.MAX_VALUE;
        for (int way = 0; way < court.ways(); way++) {
            int price = court.sumOf(way, COST);
            if (price < least && isMet(masks[way], clauses)) {
                best = way;
                least = price;
            }
        }
        return best;
    }

    private boolean isClash(int set) {
        for (int way = 0; way < court.ways(); way++) {
            if (isMet(masks[way], set)) {
                return false;
            }
        }
        return true;
    }

    private static int smallerSet(int a, int b) {
        int byMany = Integer.compare(Integer.bitCount(a), Integer.bitCount(b));
        if (byMany != 0) {
            return byMany < 0 ? a : b;
        }
        return Math.min(a, b);
    }

    private void copyBordersToTrial() {
        System.arraycopy(now.border, 0, trial, 0, 2 * TRAITS);
    }

    // ---- by turns: sets of WAYS as bits of a long, the WAY of none bit 0

    /** WAYS from which she wins with so many turns left (three at most: the depth), the king being next. */
    private long winningWays(int turns, int named) {
        if (turns <= 0) {
            return waysMeeting(named);
        }
        int left = now.on & ~named;
        if (left == 0) {
            return waysAhead(winningWays(turns - 1, named));
        }
        long all = -1L;
        for (int k = 0; k < court.clauses; k++) {
            if (hasBit(left, k)) {
                all &= waysAhead(winningWays(turns - 1, named | 1 << k));
            }
        }
        return all;
    }

    private long waysMeeting(int clauses) {
        long ways = 0L;
        for (int way = 0; way < court.ways(); way++) {
            if (isMet(masks[way], clauses)) {
                ways |= 1L << way;
            }
        }
        return ways;
    }

    /** WAYS from which one THING more, or none, leads to one of these. */
    private long waysAhead(long ways) {
        long ahead = ways;
        for (int i = 0; i < court.things; i++) {
            ahead |= ways >>> (1 << i) & WITHOUT[i];
        }
        return ahead;
    }

    private static boolean hasWayOfNone(long ways) {
        return (ways & 1L) == 1L;
    }

    // ---- rulings

    private int refusedRulings(int r) {
        int refused = refusedPlace(rows, r);
        if (refused != 0) {
            return refused;
        }
        int size = rows.sizeOf(r);
        if (size % 3 != 0) {
            return refuse(SIZE);
        }
        for (int i = 0; i < size / 3; i++) {
            boolean isRuling = isTrait(rows.cellOf(r, 3 * i))
                && isValue(rows.cellOf(r, 3 * i + 1)) && isFlag(rows.cellOf(r, 3 * i + 2));
            if (!isRuling) {
                return refuse(UNLIKE);
            }
        }
        return 0;
    }

    private boolean isContradiction(int r, int i, int j) {
        if (rows.cellOf(r, 3 * i) != rows.cellOf(r, 3 * j)) {
            return false;
        }
        int valueI = rows.cellOf(r, 3 * i + 1);
        int valueJ = rows.cellOf(r, 3 * j + 1);
        boolean muchI = rows.cellOf(r, 3 * i + 2) == 1;
        boolean muchJ = rows.cellOf(r, 3 * j + 2) == 1;
        if (muchI == muchJ) {
            return false;
        }
        return muchI ? valueJ >= valueI : valueI >= valueJ;
    }

    /** RULINGS (bits) of a TRAIT that an upper border (0 .. 6) would have ruled otherwise. */
    private int ruledOtherwise(int r, int trait, int upper) {
        int bits = 0;
        for (int i = 0; i < rows.sizeOf(r) / 3; i++) {
            boolean much = rows.cellOf(r, 3 * i + 2) == 1;
            boolean would = rows.cellOf(r, 3 * i + 1) >= upper;
            if (rows.cellOf(r, 3 * i) == trait && much != would) {
                bits |= 1 << i;
            }
        }
        return bits;
    }

    /**
     * RULINGS do not CONTRADICT just if one border, 0 (all MUCH) to 6 (none), parts them:
     * so the fewest to strike are those that the best border would have ruled otherwise.
     */
    private int struckOfTrait(int r, int trait) {
        int best = ruledOtherwise(r, trait, 0);
        for (int upper = 1; upper <= VALUE_MOST + 1; upper++) {
            best = smallerSet(best, ruledOtherwise(r, trait, upper));
        }
        return best;
    }

    // ---- judgements

    private int refusedJudgements(int r) {
        int refused = refusedPlace(rows, r);
        if (refused != 0) {
            return refused;
        }
        int size = rows.sizeOf(r);
        if (size % 2 != 0) {
            return refuse(SIZE);
        }
        for (int i = 0; i < size / 2; i++) {
            if (!court.isWay(rows.cellOf(r, 2 * i)) || !isFlag(rows.cellOf(r, 2 * i + 1))) {
                return refuse(UNLIKE);
            }
        }
        return 0;
    }

    private boolean isJudgedByTrial(int k, int r) {
        for (int i = 0; i < rows.sizeOf(r) / 2; i++) {
            boolean held = court.isHeldAs(court.kind[k], k, rows.cellOf(r, 2 * i), trial);
            if (held != (rows.cellOf(r, 2 * i + 1) == 1)) {
                return false;
            }
        }
        return true;
    }

    // ---- what is told

    private void tellChance(long above, long below) {
        long a = below;
        long b = above;
        // Euclid's steps: numbers of 63 bits never need more than 100.
        for (int step = 0; step < 100 && b != 0; step++) {
            long rest = a % b;
            a = b;
            b = rest;
        }
        if (a > 0) {
            chanceUpper = above / a;
            chanceLower = below / a;
        }
    }

    private int countNumber(int what) {
        switch (what) {
            case 0:
                return court.things;
            case 1:
                return court.clauses;
            case 2:
                return Integer.bitCount(now.on);
            case 3:
                return now.deeds;
            case 4:
                return clausesOf(NEITHER);
            case 5:
                return clausesOf(BOTH);
            case 6:
                return rows.manyThere();
            case 7:
                return texts.manyThere();
            default:
                return manyKept();
        }
    }

    private int clausesOf(int kind) {
        int many = 0;
        for (int k = 0; k < court.clauses; k++) {
            if (isOfKind(court.kind[k], kind)) {
                many++;
            }
        }
        return many;
    }

    private int manyKept() {
        int many = 0;
        for (int k = 0; k < PLACES; k++) {
            if (kept[k].isThere) {
                many++;
            }
        }
        return many;
    }

    private static long mixed(long h, int v) {
        return 31L * h + v;
    }

    /** ROWS or TEXTS: places of so many cells, each missing or with a size. */
    private static final class Shelf {
        final int places;
        final int width;
        final int blank;
        final int[] cells;
        final int[] sizes;

        Shelf(int places, int width, int blank) {
            this.places = places;
            this.width = width;
            this.blank = blank;
            cells = new int[places * width];
            sizes = new int[places];
            Arrays.fill(sizes, -1);
        }

        boolean isPlace(int p) {
            return p >= 0 && p < places;
        }

        boolean isThere(int p) {
            return sizes[p] >= 0;
        }

        int sizeOf(int p) {
            return sizes[p];
        }

        /** Compared without i + n, which could wrap around. */
        boolean hasStretch(int p, int i, int n) {
            return i >= 0 && n >= 0 && n <= sizes[p] && i <= sizes[p] - n;
        }

        int cellOf(int p, int i) {
            return cells[p * width + i];
        }

        void setCell(int p, int i, int v) {
            cells[p * width + i] = v;
        }

        void lieAnew(int p, int n) {
            sizes[p] = n;
            Arrays.fill(cells, p * width, p * width + n, blank);
        }

        void remove(int p) {
            sizes[p] = -1;
        }

        void moveStretch(int p, int i, int to, int j, int n) {
            System.arraycopy(cells, p * width + i, cells, to * width + j, n);
        }

        int manyThere() {
            int many = 0;
            for (int p = 0; p < places; p++) {
                if (isThere(p)) {
                    many++;
                }
            }
            return many;
        }

        long mixInto(long before) {
            long h = before;
            for (int p = 0; p < places; p++) {
                h = mixed(h, sizes[p]);
                for (int i = 0; i < sizes[p]; i++) {
                    h = mixed(h, cellOf(p, i));
                }
            }
            return h;
        }
    }

    /** THINGS and CLAUSES as a TEXT tells them; no DEED changes these. */
    private static final class Court {
        int things;
        int clauses;
        // Figures that the item being read still lacks.
        int due;
        final int[] given = new int[THINGS_MOST * GIVEN];
        // What each WAY's THINGS give and COST together, as addUp() leaves it.
        final int[] sums = new int[WAYS_MOST * GIVEN];
        final int[] kind = new int[CLAUSES_MOST];
        final int[] trait = new int[CLAUSES_MOST];
        final int[] other = new int[CLAUSES_MOST];

        /** The FAULT, or NONE. */
        int readFrom(Shelf texts, int t) {
            things = 0;
            clauses = 0;
            due = 0;
            int size = texts.sizeOf(t);
            for (int i = 0; i < size; i++) {
                int sign = texts.cellOf(t, i);
                boolean goesOn = due > 0 ? takesFigure(sign - FIGURE_0) : beginsItem(sign);
                if (!goesOn) {
                    return i;
                }
            }
            return due > 0 || things == 0 ? size : NONE;
        }

        private boolean beginsItem(int sign) {
            if (sign == BLANK) {
                return true;
            }
            return sign == LETTER_OF_THING ? beginsThing() : beginsClause(sign);
        }

        private boolean beginsThing() {
            if (clauses > 0 || things >= THINGS_MOST) {
                return false;
            }
            things++;
            due = GIVEN;
            return true;
        }

        private boolean beginsClause(int sign) {
            if (things == 0 || clauses >= CLAUSES_MOST) {
                return false;
            }
            for (int letter = CLAUSE; letter <= BUT; letter++) {
                if (LETTERS[letter] == sign) {
                    kind[clauses] = letter;
                    other[clauses] = NONE;
                    clauses++;
                    due = isOfKind(letter, BOTH) ? 2 : 1;
                    return true;
                }
            }
            return false;
        }

        private boolean takesFigure(int figure) {
            return clauses == 0 ? takesGift(figure) : takesTrait(figure);
        }

        private boolean takesGift(int figure) {
            int most = due == 1 ? 9 : 3;
            if (figure < 0 || figure > most) {
                return false;
            }
            given[things * GIVEN - due] = figure;
            due--;
            return true;
        }

        private boolean takesTrait(int figure) {
            if (!isTrait(figure)) {
                return false;
            }
            int k = clauses - 1;
            boolean isOther = due == 1 && isOfKind(kind[k], BOTH);
            if (isOther && trait[k] == figure) {
                return false;
            }
            if (isOther) {
                other[k] = figure;
            } else {
                trait[k] = figure;
            }
            due--;
            return true;
        }

        int ways() {
            return 1 << things;
        }

        int clauseSets() {
            return 1 << clauses;
        }

        boolean isWay(int way) {
            return way >= 0 && way < ways();
        }

        /** The other TRAIT of a CLAUSE; of one that has none the next TRAIT. */
        int secondOf(int k) {
            return isTrait(other[k]) ? other[k] : (trait[k] + 1) % TRAITS;
        }

        /** Each WAY gets what it gives from the WAY without its first THING. */
        void addUp() {
            for (int way = 1; way < ways(); way++) {
                int first = Integer.numberOfTrailingZeros(way);
                int rest = way & ~(1 << first);
                for (int what = 0; what < GIVEN; what++) {
                    sums[way * GIVEN + what] = sumOf(rest, what) + given[first * GIVEN + what];
                }
            }
        }

        int sumOf(int way, int what) {
            return sums[way * GIVEN + what];
        }

        int valueOf(int way, int trait) {
            return Math.min(VALUE_MOST, sumOf(way, trait));
        }

        /** CLAUSES (bits) that HOLD of a WAY by these BORDERS. */
        int heldBy(int way, int[] border) {
            int bits = 0;
            for (int k = 0; k < clauses; k++) {
                if (isHeldAs(kind[k], k, way, border)) {
                    bits |= 1 << k;
                }
            }
            return bits;
        }

        /** Whether a CLAUSE, were it of this KIND, HOLDS of a WAY by these BORDERS. */
        boolean isHeldAs(int asKind, int k, int way, int[] border) {
            int first = trait[k];
            int v = valueOf(way, first);
            int lower = border[2 * first];
            int upper = border[2 * first + 1];
            boolean much = v >= upper;
            boolean between = v > lower && v < upper;
            switch (asKind) {
                case CLAUSE:
                    return much;
                case NEITHER:
                    return between;
                case BOTH:
                    return much && isSecondMuch(k, way, border);
                case UNDONE:
                    return !much;
                case HALF:
                    return between && v == (lower + upper) / 2;
                default:
                    return much && isSecondLittle(k, way, border);
            }
        }

        private boolean isSecondMuch(int k, int way, int[] border) {
            int second = secondOf(k);
            return valueOf(way, second) >= border[2 * second + 1];
        }

        private boolean isSecondLittle(int k, int way, int[] border) {
            int second = secondOf(k);
            return valueOf(way, second) <= border[2 * second];
        }
    }

    /** What DEEDS change: which CLAUSES are ON, the BORDERS, and the DEEDS themselves. */
    private static final class Standing {
        boolean isThere;
        int on;
        int deeds;
        // Of a TRAIT its lower and upper one, one behind the other.
        final int[] border = new int[2 * TRAITS];
        // A DEED's place: that of a BORDER, or behind all of those that of a CLAUSE.
        final int[] deedPlace = new int[DEEDS_MOST];
        final int[] deedWas = new int[DEEDS_MOST];

        void beginWith(int clauses) {
            on = (1 << clauses) - 1;
            deeds = 0;
            for (int trait = 0; trait < TRAITS; trait++) {
                border[2 * trait] = LOWER_FIRST;
                border[2 * trait + 1] = UPPER_FIRST;
            }
        }

        boolean isOn(int k) {
            return hasBit(on, k);
        }

        int lowerOf(int trait) {
            return border[2 * trait];
        }

        int upperOf(int trait) {
            return border[2 * trait + 1];
        }

        void doClause(int k, boolean isOnThen) {
            noteDeed(border.length + k, isOn(k) ? 1 : 0);
            setClause(k, isOnThen);
        }

        void doBorder(int place, int v) {
            noteDeed(place, border[place]);
            border[place] = v;
        }

        void takeBackTo(int n) {
            for (int d = deeds - 1; d >= n; d--) {
                int place = deedPlace[d];
                if (place < border.length) {
                    border[place] = deedWas[d];
                } else {
                    setClause(place - border.length, deedWas[d] == 1);
                }
            }
            deeds = n;
        }

        void takeFrom(Standing that) {
            on = that.on;
            deeds = that.deeds;
            System.arraycopy(that.border, 0, border, 0, border.length);
            System.arraycopy(that.deedPlace, 0, deedPlace, 0, DEEDS_MOST);
            System.arraycopy(that.deedWas, 0, deedWas, 0, DEEDS_MOST);
        }

        private void noteDeed(int place, int was) {
            deedPlace[deeds] = place;
            deedWas[deeds] = was;
            deeds++;
        }

        private void setClause(int k, boolean isOnThen) {
            on = isOnThen ? on | 1 << k : on & ~(1 << k);
        }
    }
}
