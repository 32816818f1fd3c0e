import java.math.BigInteger;
import java.util.ArrayList;
import java.util.Arrays;
import java.util.List;
import java.util.function.IntPredicate;

/**
 * The document once more, as naively as can be: DEEDS are done again from the first one,
 * what is fewest is looked for among all sets, chances are added up over all that may be forgotten.
 */
final class Model {
    private static final int BAD = -1, FULL = -2, FINDING = -3, STATE = -4, NONE = -9;
    private static final String LETTERS = "cnbuhx";

    private record Clause(int kind, int trait, int other) { }

    private record Deed(boolean isStrike, int a, int b, int v) { }

    private record Kept(List<Deed> deeds) { }

    private final int[][] rows = new int[6][];
    private final byte[][] texts = new byte[4][];
    private List<int[]> things = new ArrayList<>();
    private List<Clause> clauses = new ArrayList<>();
    private List<Deed> deeds = new ArrayList<>();
    private final Kept[] kept = new Kept[3];
    private final int[] found = new int[6];
    private int latest;
    private int asked;
    private BigInteger upper = BigInteger.ZERO;
    private BigInteger lower = BigInteger.ONE;

    // ---- what DEEDS come to

    private int[][] borders() {
        int[][] borders = {{1, 4}, {1, 4}, {1, 4}, {1, 4}};
        for (Deed d : deeds) {
            if (!d.isStrike) {
                borders[d.a][d.b] = d.v;
            }
        }
        return borders;
    }

    private boolean isOn(int k) {
        boolean on = true;
        for (Deed d : deeds) {
            if (d.isStrike && d.a == k) {
                on = d.v == 0;
            }
        }
        return on;
    }

    private int onSet() {
        return setOf(clauses.size(), this::isOn);
    }

    private static int setOf(int size, IntPredicate is) {
        int set = 0;
        for (int i = 0; i < size; i++) {
            set += is.test(i) ? 1 << i : 0;
        }
        return set;
    }

    private int found(int f) {
        latest = f;
        found[f]++;
        return FINDING;
    }

    private static boolean in(int v, int from, int to) {
        return from <= v && v <= to;
    }

    // ---- 1

    int row(int r, int n) {
        if (!in(r, 0, 5) || n > 40) {
            return BAD;
        }
        if (n < 0) {
            return found(5);
        }
        rows[r] = new int[n];
        return n;
    }

    int lay(int r, int i, int v) {
        int said = at(r, i);
        if (said == 1) {
            rows[r][i] = v;
        }
        return said;
    }

    int at(int r, int i) {
        if (!in(r, 0, 5)) {
            return BAD;
        }
        if (rows[r] == null) {
            return found(1);
        }
        if (!in(i, 0, rows[r].length - 1)) {
            return found(2);
        }
        asked = rows[r][i];
        return 1;
    }

    int tear(int r) {
        if (!in(r, 0, 5)) {
            return BAD;
        }
        if (rows[r] == null) {
            return found(1);
        }
        rows[r] = null;
        return 1;
    }

    int copy(int r, int i, int to, int j, int n) {
        if (!in(r, 0, 5) || !in(to, 0, 5)) {
            return BAD;
        }
        if (n < 0) {
            return found(5);
        }
        if (rows[r] == null || rows[to] == null) {
            return found(1);
        }
        if (i < 0 || j < 0 || (long) i + n > rows[r].length || (long) j + n > rows[to].length) {
            return found(2);
        }
        int[] taken = Arrays.copyOfRange(rows[r], i, i + n);
        for (int m = 0; m < n; m++) {
            rows[to][j + m] = taken[m];
        }
        return 1;
    }

    int mean(int r) {
        if (!in(r, 0, 5)) {
            return BAD;
        }
        if (rows[r] == null) {
            return found(1);
        }
        if (rows[r].length == 0) {
            return found(4);
        }
        BigInteger sum = BigInteger.ZERO;
        for (int v : rows[r]) {
            sum = sum.add(BigInteger.valueOf(v));
        }
        asked = sum.divide(BigInteger.valueOf(rows[r].length)).intValueExact();
        return 1;
    }

    int text(int t, int n) {
        if (!in(t, 0, 3) || n > 80) {
            return BAD;
        }
        if (n < 0) {
            return found(5);
        }
        texts[t] = new byte[n];
        Arrays.fill(texts[t], (byte) ' ');
        return n;
    }

    int put(int t, int i, int v) {
        if (!in(t, 0, 3)) {
            return BAD;
        }
        if (texts[t] == null) {
            return found(1);
        }
        if (!in(i, 0, texts[t].length - 1)) {
            return found(2);
        }
        int was = texts[t][i];
        texts[t][i] = (byte) v;
        return 1000 + was;
    }

    /** Reads a TEXT item by item into these lists. */
    private int read(int t, List<int[]> toThings, List<Clause> toClauses) {
        String s = new String(texts[t], java.nio.charset.StandardCharsets.ISO_8859_1);
        int p = 0;
        while (p < s.length()) {
            if (s.charAt(p) == ' ') {
                p++;
                continue;
            }
            char letter = s.charAt(p);
            boolean isThing = letter == 't';
            int kind = LETTERS.indexOf(letter);
            if (isThing ? !toClauses.isEmpty() || toThings.size() == 6
                : kind < 0 || toThings.isEmpty() || toClauses.size() == 8) {
                return p;
            }
            String figures = isThing ? "33339" : kind == 2 || kind == 5 ? "33" : "3";
            int[] read = new int[figures.length()];
            for (int f = 0; f < figures.length(); f++) {
                p++;
                if (p == s.length() || s.charAt(p) < '0' || s.charAt(p) > figures.charAt(f)) {
                    return p;
                }
                read[f] = s.charAt(p) - '0';
                if (!isThing && f == 1 && read[0] == read[1]) {
                    return p;
                }
            }
            p++;
            if (isThing) {
                toThings.add(read);
            } else {
                toClauses.add(new Clause(kind, read[0], read.length == 2 ? read[1] : NONE));
            }
        }
        return toThings.isEmpty() ? s.length() : NONE;
    }

    int fault(int t) {
        if (!in(t, 0, 3)) {
            return BAD;
        }
        return texts[t] == null ? found(1) : read(t, new ArrayList<>(), new ArrayList<>());
    }

    int court(int t) {
        if (!in(t, 0, 3)) {
            return BAD;
        }
        if (texts[t] == null) {
            return found(1);
        }
        List<int[]> newThings = new ArrayList<>();
        List<Clause> newClauses = new ArrayList<>();
        if (read(t, newThings, newClauses) != NONE) {
            return STATE;
        }
        things = newThings;
        clauses = newClauses;
        deeds = new ArrayList<>();
        Arrays.fill(kept, null);
        return things.size();
    }

    int thing(int i, int what) {
        if (!in(i, 0, things.size() - 1) || !in(what, 0, 4)) {
            return BAD;
        }
        asked = things.get(i)[what];
        return 1;
    }

    private boolean isClause(int k) {
        return in(k, 0, clauses.size() - 1);
    }

    private int clauseTells(int k, int what) {
        Clause c = clauses.get(k);
        return switch (what) {
            case 0 -> c.kind;
            case 1 -> c.trait;
            case 2 -> c.other;
            case 3 -> isOn(k) ? 1 : 0;
            default -> waysOf(c);
        };
    }

    private int waysOf(Clause c) {
        int[][] borders = borders();
        int many = 0;
        for (int way = 0; way < ways(); way++) {
            many += holds(c, way, borders) ? 1 : 0;
        }
        return many;
    }

    int clause(int k, int what) {
        if (!isClause(k) || !in(what, 0, 4)) {
            return BAD;
        }
        asked = clauseTells(k, what);
        return 1;
    }

    private static boolean isA(int own, int kind) {
        return own == kind || own == 4 && kind == 1 || own == 5 && kind == 2;
    }

    int mark(int k, int kind) {
        if (!isClause(k) || !in(kind, 1, 5)) {
            return BAD;
        }
        Clause c = clauses.get(k);
        if (!isA(c.kind, kind)) {
            return found(3);
        }
        int[] b = borders()[c.trait];
        int many = 0;
        if (kind == 1) {
            for (int v = 0; v <= 5; v++) {
                many += v > b[0] && v < b[1] ? 1 : 0;
            }
            return many;
        }
        if (kind == 2) {
            return Math.max(b[1], borders()[c.other][1]);
        }
        if (kind == 3) {
            for (int[] thing : things) {
                many += thing[c.trait] >= b[1] ? 1 : 0;
            }
            return many;
        }
        if (kind == 4) {
            int at = NONE;
            for (int v = 0; v <= 5; v++) {
                at = v == (b[0] + b[1]) / 2 && v > b[0] && v < b[1] ? v : at;
            }
            return at;
        }
        for (int way = 0; way < ways(); way++) {
            many += valueOf(way, c.other) <= borders()[c.other][0] ? 1 : 0;
        }
        return many;
    }

    int border(int trait, int which) {
        return in(trait, 0, 3) && in(which, 0, 1) ? borders()[trait][which] : BAD;
    }

    // ---- 2

    int strike(int k, int is) {
        if (!isClause(k) || !in(is, 0, 1)) {
            return BAD;
        }
        if (isOn(k) != (is == 1)) {
            return STATE;
        }
        if (deeds.size() == 40) {
            return FULL;
        }
        deeds.add(new Deed(true, k, 0, is));
        return Integer.bitCount(onSet());
    }

    private boolean isBadBorder(int trait, int which, int v) {
        return !in(trait, 0, 3) || !in(which, 0, 1) || (which == 0 ? !in(v, 0, 4) : !in(v, 1, 5));
    }

    private int[][] bordersIf(int trait, int which, int v) {
        int[][] borders = borders();
        borders[trait][which] = v;
        return borders;
    }

    int move(int trait, int which, int v) {
        if (isBadBorder(trait, which, v)) {
            return BAD;
        }
        int[] then = bordersIf(trait, which, v)[trait];
        int was = borders()[trait][which];
        if (then[0] >= then[1] || was == v) {
            return STATE;
        }
        if (deeds.size() == 40) {
            return FULL;
        }
        deeds.add(new Deed(false, trait, which, v));
        return was;
    }

    int undo(int n) {
        if (n < 0 || n > deeds.size()) {
            return BAD;
        }
        int many = deeds.size() - n;
        deeds = new ArrayList<>(deeds.subList(0, n));
        return many;
    }

    int keep(int k) {
        if (!in(k, 0, 2)) {
            return BAD;
        }
        if (things.isEmpty()) {
            return STATE;
        }
        kept[k] = new Kept(List.copyOf(deeds));
        return deeds.size();
    }

    int on(int k) {
        if (!in(k, 0, 2)) {
            return BAD;
        }
        if (kept[k] == null) {
            return found(1);
        }
        deeds = new ArrayList<>(kept[k].deeds);
        return deeds.size();
    }

    // ---- 3

    private int ways() {
        return 1 << things.size();
    }

    private boolean isWay(int way) {
        return in(way, 0, ways() - 1);
    }

    private int together(int way, int what) {
        int sum = 0;
        for (int i = 0; i < things.size(); i++) {
            sum += (way & 1 << i) != 0 ? things.get(i)[what] : 0;
        }
        return sum;
    }

    private int valueOf(int way, int trait) {
        return Math.min(5, together(way, trait));
    }

    private boolean holds(Clause c, int way, int[][] borders) {
        int v = valueOf(way, c.trait);
        int[] b = borders[c.trait];
        boolean much = v >= b[1];
        boolean little = v <= b[0];
        return switch (c.kind) {
            case 0 -> much;
            case 1 -> !much && !little;
            case 2 -> much && valueOf(way, c.other) >= borders[c.other][1];
            case 3 -> !much;
            case 4 -> !much && !little && v == (b[0] + b[1]) / 2;
            default -> much && valueOf(way, c.other) <= borders[c.other][0];
        };
    }

    private boolean holdAll(int set, int way, int[][] borders) {
        for (int k = 0; k < clauses.size(); k++) {
            if ((set & 1 << k) != 0 && !holds(clauses.get(k), way, borders)) {
                return false;
            }
        }
        return true;
    }

    private boolean isGood(int way) {
        return holdAll(onSet(), way, borders());
    }

    private List<Integer> goodWays() {
        List<Integer> good = new ArrayList<>();
        for (int way = 0; way < ways(); way++) {
            if (isGood(way)) {
                good.add(way);
            }
        }
        return good;
    }

    int value(int way, int trait) {
        return isWay(way) && in(trait, 0, 3) ? valueOf(way, trait) : BAD;
    }

    int cost(int way) {
        return isWay(way) ? together(way, 4) : BAD;
    }

    private int heldOf(int way) {
        int[][] borders = borders();
        return setOf(clauses.size(), k -> holds(clauses.get(k), way, borders));
    }

    int holds(int way) {
        if (!isWay(way)) {
            return BAD;
        }
        asked = isGood(way) ? 1 : 0;
        return heldOf(way);
    }

    int good() {
        if (things.isEmpty()) {
            return STATE;
        }
        List<Integer> good = goodWays();
        asked = good.isEmpty() ? NONE : good.get(0);
        return good.size();
    }

    private int leastGood(boolean byCost) {
        if (things.isEmpty()) {
            return STATE;
        }
        int best = NONE;
        int least = 1000;
        for (int way : goodWays()) {
            int size = byCost ? together(way, 4) : Integer.bitCount(way);
            if (size < least) {
                best = way;
                least = size;
            }
        }
        asked = best == NONE ? asked : least;
        return best;
    }

    int cheapest() {
        return leastGood(true);
    }

    int fewest() {
        return leastGood(false);
    }

    int nearest() {
        if (things.isEmpty()) {
            return STATE;
        }
        for (int many = clauses.size(); many >= 0; many--) {
            for (int way = 0; way < ways(); way++) {
                if (Integer.bitCount(heldOf(way) & onSet()) == many) {
                    asked = many;
                    return way;
                }
            }
        }
        return STATE;
    }

    int tight(int way) {
        if (!isWay(way)) {
            return BAD;
        }
        boolean tight = isGood(way);
        for (int i = 0; i < things.size(); i++) {
            tight &= (way & 1 << i) == 0 || !isGood(way - (1 << i));
        }
        return tight ? 1 : 0;
    }

    // ---- 4

    private boolean isClash(int set) {
        int[][] borders = borders();
        for (int way = 0; way < ways(); way++) {
            if (holdAll(set, way, borders)) {
                return false;
            }
        }
        return true;
    }

    int clash(int set) {
        if (!in(set, 0, (1 << clauses.size()) - 1)) {
            return BAD;
        }
        return things.isEmpty() ? STATE : isClash(set) ? 1 : 0;
    }

    int two() {
        if (things.isEmpty()) {
            return STATE;
        }
        List<Integer> sets = new ArrayList<>();
        for (int i = 0; i < clauses.size(); i++) {
            for (int j = 0; j <= i; j++) {
                int set = 1 << i | 1 << j;
                if (isClash(set)) {
                    sets.add(set);
                }
            }
        }
        asked = sets.size();
        return sets.stream().min(Integer::compare).orElse(NONE);
    }

    int least() {
        if (things.isEmpty()) {
            return STATE;
        }
        for (int many = 1; many <= clauses.size(); many++) {
            for (int set = 0; set < 1 << clauses.size(); set++) {
                if (Integer.bitCount(set) == many && isClash(set)) {
                    asked = set;
                    return many;
                }
            }
        }
        return NONE;
    }

    int relent() {
        if (things.isEmpty()) {
            return STATE;
        }
        int on = onSet();
        for (int many = 0; many <= clauses.size(); many++) {
            for (int set = 0; set <= on; set++) {
                if (Integer.bitCount(set) == many && (set & ~on) == 0 && !isClash(on & ~set)) {
                    asked = set;
                    return many;
                }
            }
        }
        return STATE;
    }

    // ---- 5

    private boolean sheWins(int n, int named, int taken) {
        if (n == 0) {
            return holdAll(named, taken, borders());
        }
        boolean wins = true;
        boolean hasNamed = false;
        for (int k = 0; k < clauses.size() && wins; k++) {
            if (isOn(k) && (named & 1 << k) == 0) {
                hasNamed = true;
                wins = sheAnswers(n, named | 1 << k, taken);
            }
        }
        return hasNamed ? wins : sheAnswers(n, named, taken);
    }

    private boolean sheAnswers(int n, int named, int taken) {
        boolean wins = sheWins(n - 1, named, taken);
        for (int i = 0; i < things.size() && !wins; i++) {
            wins = (taken & 1 << i) == 0 && sheWins(n - 1, named, taken | 1 << i);
        }
        return wins;
    }

    int game(int n) {
        if (!in(n, 0, 3)) {
            return BAD;
        }
        return things.isEmpty() ? STATE : sheWins(n, 0, 0) ? 1 : 0;
    }

    int names(int n) {
        if (!in(n, 1, 3)) {
            return BAD;
        }
        if (things.isEmpty()) {
            return STATE;
        }
        if (sheWins(n, 0, 0)) {
            return NONE;
        }
        for (int k = 0; k < clauses.size(); k++) {
            if (isOn(k) && !sheAnswers(n, 1 << k, 0)) {
                return k;
            }
        }
        return NONE;
    }

    // ---- 6

    private int rulingsRefused(int r) {
        if (rows[r] == null) {
            return found(1);
        }
        if (rows[r].length % 3 != 0) {
            return found(5);
        }
        int[] most = {3, 5, 1};
        for (int i = 0; i < rows[r].length; i++) {
            if (!in(rows[r][i], 0, most[i % 3])) {
                return found(3);
            }
        }
        return 0;
    }

    private static boolean contradict(int[] row, int i, int j) {
        int a = row[3 * i + 2] == 1 ? i : j;
        int b = a == i ? j : i;
        return row[3 * i] == row[3 * j] && row[3 * a + 2] == 1 && row[3 * b + 2] == 0
            && row[3 * b + 1] >= row[3 * a + 1];
    }

    private static List<Integer> pairs(int[] row, int without) {
        List<Integer> pairs = new ArrayList<>();
        for (int i = 0; i < row.length / 3; i++) {
            for (int j = i + 1; j < row.length / 3; j++) {
                if ((without & (1 << i | 1 << j)) == 0 && contradict(row, i, j)) {
                    pairs.add(100 * i + j);
                }
            }
        }
        return pairs;
    }

    int contradict(int r) {
        if (!in(r, 0, 5)) {
            return BAD;
        }
        int refused = rulingsRefused(r);
        if (refused != 0) {
            return refused;
        }
        List<Integer> pairs = pairs(rows[r], 0);
        asked = pairs.isEmpty() ? NONE : pairs.get(0);
        return pairs.size();
    }

    int fix(int r) {
        if (!in(r, 0, 5)) {
            return BAD;
        }
        int refused = rulingsRefused(r);
        if (refused != 0) {
            return refused;
        }
        int rulings = rows[r].length / 3;
        for (int many = 0; many <= rulings; many++) {
            for (int set = 0; set < 1 << rulings; set++) {
                if (Integer.bitCount(set) == many && pairs(rows[r], set).isEmpty()) {
                    asked = set;
                    return many;
                }
            }
        }
        return STATE;
    }

    int follows(int r, int trait, int value) {
        if (!in(r, 0, 5) || !in(trait, 0, 3) || !in(value, 0, 5)) {
            return BAD;
        }
        int refused = rulingsRefused(r);
        if (refused != 0) {
            return refused;
        }
        int follows = NONE;
        for (int i = 0; i < rows[r].length; i += 3) {
            if (rows[r][i] == trait && rows[r][i + 2] == 0 && rows[r][i + 1] >= value) {
                follows = 0;
            }
        }
        for (int i = 0; i < rows[r].length; i += 3) {
            if (rows[r][i] == trait && rows[r][i + 2] == 1 && rows[r][i + 1] <= value) {
                follows = 1;
            }
        }
        return follows;
    }

    int borders(int r, int trait) {
        if (!in(r, 0, 5) || !in(trait, 0, 3)) {
            return BAD;
        }
        int refused = rulingsRefused(r);
        if (refused != 0) {
            return refused;
        }
        int bits = 0;
        for (int u = 1; u <= 5; u++) {
            boolean so = true;
            for (int i = 0; i < rows[r].length; i += 3) {
                so &= rows[r][i] != trait || (rows[r][i + 1] >= u ? 1 : 0) == rows[r][i + 2];
            }
            bits |= so ? 1 << u : 0;
        }
        return bits;
    }

    // ---- 7

    private int leastCost(int set) {
        int least = NONE;
        int[][] borders = borders();
        for (int way = 0; way < ways(); way++) {
            if (holdAll(set, way, borders) && (least == NONE || together(way, 4) < least)) {
                least = together(way, 4);
            }
        }
        return least;
    }

    int worth(int k) {
        if (!isClause(k)) {
            return BAD;
        }
        if (!isOn(k)) {
            return 0;
        }
        int now = leastCost(onSet());
        int then = leastCost(onSet() - (1 << k));
        if (then == NONE) {
            return NONE;
        }
        return now == NONE ? 1000 : now - then;
    }

    int falls(int trait, int which, int v) {
        if (isBadBorder(trait, which, v)) {
            return BAD;
        }
        int[][] then = bordersIf(trait, which, v);
        if (then[trait][0] >= then[trait][1]) {
            return STATE;
        }
        int fallen = 0;
        int risen = 0;
        for (int way = 0; way < ways(); way++) {
            boolean before = isGood(way);
            boolean after = holdAll(onSet(), way, then);
            fallen += before && !after ? 1 : 0;
            risen += !before && after ? 1 : 0;
        }
        asked = risen;
        return fallen;
    }

    int kinds(int k, int many) {
        if (!isClause(k) || !in(many, 0, 64)) {
            return BAD;
        }
        Clause c = clauses.get(k);
        int other = c.other == NONE ? c.trait == 3 ? 0 : c.trait + 1 : c.other;
        return setOf(6, kind -> waysOf(new Clause(kind, c.trait, other)) == many);
    }

    int judged(int k, int r) {
        if (!isClause(k) || !in(r, 0, 5)) {
            return BAD;
        }
        if (rows[r] == null) {
            return found(1);
        }
        if (rows[r].length % 2 != 0) {
            return found(5);
        }
        for (int i = 0; i < rows[r].length; i += 2) {
            if (!isWay(rows[r][i]) || !in(rows[r][i + 1], 0, 1)) {
                return found(3);
            }
        }
        List<Integer> can = new ArrayList<>();
        for (int pair = 0; pair < 50; pair++) {
            int[][] borders = borders();
            borders[clauses.get(k).trait] = new int[] {pair / 10, pair % 10};
            if (pair % 10 <= 5 && pair / 10 < pair % 10 && isJudgedSo(clauses.get(k), rows[r], borders)) {
                can.add(pair);
            }
        }
        asked = can.isEmpty() ? NONE : can.get(0);
        return can.size();
    }

    private boolean isJudgedSo(Clause c, int[] row, int[][] borders) {
        for (int i = 0; i < row.length; i += 2) {
            if (holds(c, row[i], borders) != (row[i + 1] == 1)) {
                return false;
            }
        }
        return true;
    }

    // ---- 8

    private void tell(long above, long below) {
        BigInteger a = BigInteger.valueOf(above);
        BigInteger b = BigInteger.valueOf(below);
        upper = a.divide(a.gcd(b));
        lower = b.divide(a.gcd(b));
    }

    /** Adds up, over all sets of CLAUSES that may be forgotten, how likely each is. */
    int odds(int way, int p) {
        if (!isWay(way) || !in(p, 0, 12)) {
            return BAD;
        }
        int on = onSet();
        long above = 0;
        for (int forgotten = 0; forgotten <= on; forgotten++) {
            if ((forgotten & ~on) == 0 && holdAll(on & ~forgotten, way, borders())) {
                int f = Integer.bitCount(forgotten);
                above += power(p, f) * power(12 - p, Integer.bitCount(on) - f);
            }
        }
        tell(above, power(12, Integer.bitCount(on)));
        return 1;
    }

    private static long power(int base, int times) {
        return BigInteger.valueOf(base).pow(times).longValueExact();
    }

    int luck() {
        if (things.isEmpty()) {
            return STATE;
        }
        tell(goodWays().size(), ways());
        return 1;
    }

    int lots(int n, int seed) {
        if (!in(n, 1, 40) || !in(seed, 1, 2147483646)) {
            return BAD;
        }
        if (things.isEmpty()) {
            return STATE;
        }
        BigInteger x = BigInteger.valueOf(seed);
        int many = 0;
        for (int i = 0; i < n; i++) {
            x = x.multiply(BigInteger.valueOf(48271)).mod(BigInteger.valueOf(2147483647));
            many += isGood(x.intValueExact() / 16 % ways()) ? 1 : 0;
        }
        return many;
    }

    // ---- 9

    int asked() {
        return asked;
    }

    long upper() {
        return upper.longValueExact();
    }

    long lower() {
        return lower.longValueExact();
    }

    int count(int what) {
        return switch (what) {
            case 0 -> things.size();
            case 1 -> clauses.size();
            case 2 -> Integer.bitCount(onSet());
            case 3 -> deeds.size();
            case 4 -> (int) clauses.stream().filter(c -> isA(c.kind, 1)).count();
            case 5 -> (int) clauses.stream().filter(c -> isA(c.kind, 2)).count();
            case 6 -> (int) Arrays.stream(rows).filter(r -> r != null).count();
            case 7 -> (int) Arrays.stream(texts).filter(t -> t != null).count();
            case 8 -> (int) Arrays.stream(kept).filter(k -> k != null).count();
            default -> BAD;
        };
    }

    int finding() {
        return latest;
    }

    int findings(int f) {
        return in(f, 1, 5) ? found[f] : BAD;
    }

    long digest() {
        List<Integer> all = new ArrayList<>();
        for (int what = 0; what <= 8; what++) {
            all.add(count(what));
        }
        for (int[] b : borders()) {
            all.add(b[0]);
            all.add(b[1]);
        }
        for (int[] thing : things) {
            for (int v : thing) {
                all.add(v);
            }
        }
        for (int k = 0; k < clauses.size(); k++) {
            for (int what = 0; what <= 4; what++) {
                all.add(clauseTells(k, what));
            }
        }
        for (Kept k : kept) {
            all.add(k == null ? -1 : k.deeds.size());
        }
        for (int[] row : rows) {
            all.add(row == null ? -1 : row.length);
            for (int i = 0; row != null && i < row.length; i++) {
                all.add(row[i]);
            }
        }
        for (byte[] text : texts) {
            all.add(text == null ? -1 : text.length);
            for (int i = 0; text != null && i < text.length; i++) {
                all.add((int) text[i]);
            }
        }
        long h = 17;
        for (int v : all) {
            h = 31 * h + v;
        }
        return h;
    }
}
