import java.util.Random;

/** All promises: runs of calls, ordinary and wrong ones, as the Model answers them. */
final class ModelTest {
    // An object is used for 512 calls at most; one step takes up to 90 of them.
    private static final int RUNS = 3000, CALLS = 420;
    private static final int[] ODD = {-1, 6, 41, 81, Integer.MIN_VALUE, Integer.MAX_VALUE, 64, -9};
    private static final Due due = new Due("ModelTest");

    private final Random random;
    private final NeitherBare x = new NeitherBare();
    private final Model m = new Model();
    private String call = "";
    private int calls;

    private ModelTest(int seed) {
        random = new Random(seed);
    }

    public static void main(String[] args) {
        for (int run = 0; run < RUNS; run++) {
            ModelTest test = new ModelTest(run);
            // One run in eight begins without a COURT.
            if (run % 8 != 0) {
                test.newCourt();
            }
            while (test.calls < CALLS) {
                test.step(run);
            }
        }
        due.end();
    }

    private void step(int run) {
        int which = random.nextInt(56);
        long[] answers = which < 16 ? rowsAndTexts(which) : which < 36 ? courts(which) : rest(which);
        String where = "run " + run + ": " + call;
        due.is(where, answers[0], answers[1]);
        if (random.nextInt(3) == 0) {
            whatIsTold(where);
        }
        if (random.nextInt(8) == 0) {
            whatIsCounted(where);
        }
    }

    private void whatIsTold(String where) {
        due.is(where + ", then asked()", x.asked(), m.asked());
        due.is(where + ", then upper()", x.upper(), m.upper());
        due.is(where + ", then lower()", x.lower(), m.lower());
        due.is(where + ", then finding()", x.finding(), m.finding());
        calls += 4;
    }

    private void whatIsCounted(String where) {
        due.is(where + ", then digest()", x.digest(), m.digest());
        int f = any(7);
        due.is(where + ", then findings()", x.findings(f), m.findings(f));
        int what = any(10);
        due.is(where + ", then count()", x.count(what), m.count(what));
        calls += 3;
    }

    /** Mostly 0 .. below - 1, now and then a number that is none. */
    private int any(int below) {
        return random.nextInt(24) == 0 ? ODD[random.nextInt(ODD.length)] : random.nextInt(below);
    }

    private int row() {
        return random.nextInt(12) == 0 ? any(7) : random.nextInt(2);
    }

    private int way() {
        return any(random.nextInt(6) == 0 ? 66 : Math.max(1, 1 << m.count(0)));
    }

    private int clause() {
        return any(random.nextInt(6) == 0 ? 9 : Math.max(1, m.count(1)));
    }

    private long[] pair(String name, long got, long want, int... args) {
        StringBuilder b = new StringBuilder(name).append('(');
        for (int i = 0; i < args.length; i++) {
            b.append(i == 0 ? "" : ", ").append(args[i]);
        }
        call = b.append(')').toString();
        calls++;
        return new long[] {got, want};
    }

    private long[] rowsAndTexts(int which) {
        int r = row();
        int i = any(14);
        int v = any(6);
        int n = any(14);
        switch (which) {
            case 0:
                return pair("row", x.row(r, n), m.row(r, n), r, n);
            case 1:
                int great = random.nextInt();
                return pair("lay", x.lay(r, i, great), m.lay(r, i, great), r, i, great);
            case 2:
                return pair("at", x.at(r, i), m.at(r, i), r, i);
            case 3:
                return pair("tear", x.tear(r), m.tear(r), r);
            case 4:
            case 5:
                int to = row();
                int j = any(14);
                return pair("copy", x.copy(r, i, to, j, v), m.copy(r, i, to, j, v), r, i, to, j, v);
            case 6:
                return pair("mean", x.mean(r), m.mean(r), r);
            case 7:
            case 8:
            case 9:
                return layNumbers(3, new int[] {random.nextInt(4) + 1, 6, 2});
            case 10:
            case 11:
                return layNumbers(2, new int[] {1 << m.count(0), 2});
            case 12:
                int size = any(82);
                return pair("text", x.text(3, size), m.text(3, size), 3, size);
            case 13:
                int t = any(5);
                int p = any(82);
                int sign = random.nextInt(600) - 300;
                return pair("put", x.put(t, p, sign), m.put(t, p, sign), t, p, sign);
            default:
                int f = any(5);
                return pair("fault", x.fault(f), m.fault(f), f);
        }
    }

    private long[] layNumbers(int by, int[] below) {
        int r = row();
        int n = by * random.nextInt(by == 3 ? 8 : 5) + (random.nextInt(20) == 0 ? 1 : 0);
        long[] answers = pair("row", x.row(r, n), m.row(r, n), r, n);
        for (int i = 0; i < n; i++) {
            int v = random.nextInt(200) == 0 ? below[i % by] : random.nextInt(below[i % by]);
            x.lay(r, i, v);
            m.lay(r, i, v);
        }
        calls += n;
        return answers;
    }

    private String signs() {
        StringBuilder b = new StringBuilder();
        int things = 1 + random.nextInt(random.nextInt(20) == 0 ? 7 : 6);
        for (int i = 0; i < things; i++) {
            b.append(" ".repeat(random.nextInt(9) / 8)).append('t');
            for (int f = 0; f < 4; f++) {
                b.append(random.nextInt(4));
            }
            b.append(random.nextInt(10));
        }
        int clauses = random.nextInt(random.nextInt(20) == 0 ? 10 : 9);
        for (int k = 0; k < clauses; k++) {
            int kind = random.nextInt(6);
            int trait = random.nextInt(4);
            b.append(" ".repeat(random.nextInt(5) / 3)).append("cnbuhx".charAt(kind)).append(trait);
            if (kind == 2 || kind == 5) {
                b.append((trait + 1 + random.nextInt(random.nextInt(30) == 0 ? 4 : 3)) % 4);
            }
        }
        if (random.nextInt(4) == 0) {
            b.setCharAt(random.nextInt(b.length()), "t 0349cnbuhx/:~".charAt(random.nextInt(15)));
        }
        return b.substring(0, Math.min(80, random.nextInt(8) == 0 ? random.nextInt(b.length()) : b.length()));
    }

    private long[] newCourt() {
        int t = random.nextInt(3);
        String signs = signs();
        x.text(t, signs.length());
        m.text(t, signs.length());
        for (int i = 0; i < signs.length(); i++) {
            x.put(t, i, signs.charAt(i));
            m.put(t, i, signs.charAt(i));
        }
        due.is("fault of '" + signs + "'", x.fault(t), m.fault(t));
        calls += 2 + signs.length();
        return pair("court '" + signs + "' ", x.court(t), m.court(t), t);
    }

    private long[] courts(int which) {
        int k = clause();
        int a = any(4);
        int b = any(2);
        int v = random.nextInt(8) - 1;
        switch (which) {
            case 16:
                return m.count(0) == 0 || random.nextInt(3) == 0 ? newCourt() : pair("court", x.court(a), m.court(a), a);
            case 17:
                int i = any(7);
                int what = any(5);
                return pair("thing", x.thing(i, what), m.thing(i, what), i, what);
            case 18:
                int of = any(5);
                return pair("clause", x.clause(k, of), m.clause(k, of), k, of);
            case 19:
            case 20:
                int kind = any(6);
                return pair("mark", x.mark(k, kind), m.mark(k, kind), k, kind);
            case 21:
                return pair("border", x.border(a, b), m.border(a, b), a, b);
            case 22:
            case 23:
            case 24:
            case 25:
            case 26:
                return pair("strike", x.strike(k, b), m.strike(k, b), k, b);
            case 27:
            case 28:
            case 29:
            case 30:
                return pair("move", x.move(a, b, v), m.move(a, b, v), a, b, v);
            case 31:
                int n = any(random.nextInt(3) == 0 ? 42 : m.count(3) + 2);
                return pair("undo", x.undo(n), m.undo(n), n);
            case 32:
                int place = any(3);
                return pair("keep", x.keep(place), m.keep(place), place);
            case 33:
                int from = any(3);
                return pair("on", x.on(from), m.on(from), from);
            default:
                return pair("falls", x.falls(a, b, v), m.falls(a, b, v), a, b, v);
        }
    }

    private long[] rest(int which) {
        int way = way();
        int k = clause();
        int r = row();
        int trait = any(4);
        switch (which) {
            case 36:
                return pair("value", x.value(way, trait), m.value(way, trait), way, trait);
            case 37:
                return pair("cost", x.cost(way), m.cost(way), way);
            case 38:
                return pair("holds", x.holds(way), m.holds(way), way);
            case 39:
                return pair("good", x.good(), m.good());
            case 40:
                return pair("cheapest", x.cheapest(), m.cheapest());
            case 41:
                return pair("fewest", x.fewest(), m.fewest());
            case 42:
                return pair("nearest", x.nearest(), m.nearest());
            case 43:
                return pair("tight", x.tight(way), m.tight(way), way);
            case 44:
                int set = any(1 << m.count(1));
                return pair("clash", x.clash(set), m.clash(set), set);
            case 45:
                return pair("two", x.two(), m.two());
            case 46:
                return random.nextBoolean() ? pair("least", x.least(), m.least()) : pair("relent", x.relent(), m.relent());
            case 47:
                return turns();
            case 48:
                return pair("contradict", x.contradict(r), m.contradict(r), r);
            case 49:
                return pair("fix", x.fix(r), m.fix(r), r);
            case 50:
                int value = any(6);
                return pair("follows", x.follows(r, trait, value), m.follows(r, trait, value), r, trait, value);
            case 51:
                return pair("borders", x.borders(r, trait), m.borders(r, trait), r, trait);
            case 52:
                return pair("worth", x.worth(k), m.worth(k), k);
            case 53:
                int many = any(random.nextBoolean() ? 66 : 4);
                return pair("kinds", x.kinds(k, many), m.kinds(k, many), k, many);
            case 54:
                return pair("judged", x.judged(k, r), m.judged(k, r), k, r);
            default:
                return chances(way);
        }
    }

    private long[] turns() {
        int n = random.nextInt(5) == 0 ? any(5) : random.nextInt(3);
        return random.nextBoolean() ? pair("game", x.game(n), m.game(n), n) : pair("names", x.names(n), m.names(n), n);
    }

    private long[] chances(int way) {
        int p = any(13);
        int seed = random.nextInt();
        int n = any(42);
        switch (random.nextInt(3)) {
            case 0:
                return pair("odds", x.odds(way, p), m.odds(way, p), way, p);
            case 1:
                return pair("luck", x.luck(), m.luck());
            default:
                return pair("lots", x.lots(n, seed), m.lots(n, seed), n, seed);
        }
    }
}
