/** Promises 43 to 52: chances, lots, what is told. */
final class ToldTest {
    private static final int BAD = -1, STATE = -4;
    private static final String ALL = "t21003t03012t12215t00334t30001 n0 u1 c2 b23 h0 x31";
    private static final Due due = new Due("ToldTest");

    public static void main(String[] args) {
        promise43Odds();
        promise44Luck();
        promise45Lots();
        promise46Asked();
        promises47And48UpperLower();
        promise49Count();
        promises50And51Findings();
        promise52Digest();
        constants();
        due.end();
    }

    private static void chance(NeitherBare x, String call, int got, long upper, long lower) {
        due.is(call, got, 1);
        due.is("upper() behind " + call, x.upper(), upper);
        due.is("lower() behind " + call, x.lower(), lower);
    }

    private static void promise43Odds() {
        NeitherBare x = Due.court("t30000t30000 c0 c0 c0 c0 c0 c0 c0 c0");
        chance(x, "odds(0, 0)", x.odds(0, 0), 0, 1);
        chance(x, "odds(0, 1)", x.odds(0, 1), 1, 429981696L);
        chance(x, "odds(0, 11)", x.odds(0, 11), 214358881L, 429981696L);
        chance(x, "odds(0, 6)", x.odds(0, 6), 1, 256);
        chance(x, "odds(0, 8)", x.odds(0, 8), 256, 6561);
        chance(x, "odds(0, 12)", x.odds(0, 12), 1, 1);
        chance(x, "odds(3, 5)", x.odds(3, 5), 1, 1);
        chance(x, "odds(3, 0)", x.odds(3, 0), 1, 1);
        for (int k = 1; k < 8; k++) {
            x.strike(k, 1);
        }
        chance(x, "odds(0, 9) of one ON", x.odds(0, 9), 3, 4);
        due.is("odds(4, 0)", x.odds(4, 0), BAD);
        due.is("odds(-1, 0)", x.odds(-1, 0), BAD);
        due.is("odds(0, 13)", x.odds(0, 13), BAD);
        due.is("odds(0, -1)", x.odds(0, -1), BAD);
        due.is("upper() as it was", x.upper(), 3);
        NeitherBare y = new NeitherBare();
        chance(y, "odds(0, 5) without THINGS", y.odds(0, 5), 1, 1);
    }

    private static void promise44Luck() {
        NeitherBare x = Due.court("t30000t30000t00000 c0 u1");
        chance(x, "luck()", x.luck(), 1, 4);
        x.strike(0, 1);
        chance(x, "luck() of all", x.luck(), 1, 1);
        NeitherBare y = Due.court("t30000t30000t30000 c0");
        chance(y, "luck()", y.luck(), 1, 2);
        y.move(0, 1, 3);
        chance(y, "luck()", y.luck(), 7, 8);
        NeitherBare z = Due.court("t00000 c0");
        chance(z, "luck() of none", z.luck(), 0, 1);
        due.is("luck() without THINGS", new NeitherBare().luck(), STATE);
    }

    private static int goodByLots(NeitherBare x, int n, int seed, int ways) {
        long number = seed;
        int many = 0;
        for (int i = 0; i < n; i++) {
            number = number * 48271 % 2147483647;
            x.holds((int) (number / 16 % ways));
            many += x.asked();
        }
        return many;
    }

    private static NeitherBare courtOfFirstClause() {
        NeitherBare x = Due.court(ALL);
        for (int k = 1; k < 6; k++) {
            x.strike(k, 1);
        }
        return x;
    }

    private static void promise45Lots() {
        int[] seeds = {1, 2, 77, 12345, 2147483646};
        for (int seed : seeds) {
            NeitherBare y = courtOfFirstClause();
            for (int n = 1; n <= 40; n += 13) {
                due.is("lots(" + n + ", " + seed + ")", y.lots(n, seed), goodByLots(y, n, seed, 32));
            }
        }
        NeitherBare x = courtOfFirstClause();
        due.is("lots(40, 77)", x.lots(40, 77), 19);
        due.is("lots(0, 1)", x.lots(0, 1), BAD);
        due.is("lots(-1, 1)", x.lots(-1, 1), BAD);
        due.is("lots(41, 1)", x.lots(41, 1), BAD);
        due.is("lots(1, 0)", x.lots(1, 0), BAD);
        due.is("lots(1, -1)", x.lots(1, -1), BAD);
        due.is("lots(1, 2147483647)", x.lots(1, 2147483647), BAD);
        due.is("lots(1, 1) without THINGS", new NeitherBare().lots(1, 1), STATE);
        due.is("lots(0, 1) without THINGS", new NeitherBare().lots(0, 1), BAD);
    }

    private static void promise46Asked() {
        NeitherBare x = Due.court(ALL);
        due.is("asked() before", x.asked(), 0);
        x.thing(1, 1);
        due.is("asked()", x.asked(), 3);
        x.value(31, 0);
        x.cost(31);
        x.tight(0);
        x.clash(1);
        x.luck();
        x.odds(0, 1);
        x.lots(3, 3);
        x.kinds(0, 0);
        x.worth(0);
        x.game(1);
        x.names(1);
        x.mark(0, 1);
        x.digest();
        x.count(1);
        due.is("asked() is no other's", x.asked(), 3);
        x.cheapest();
        x.fewest();
        due.is("asked() behind NONE", x.asked(), 3);
        x.thing(9, 9);
        due.is("asked() behind BAD", x.asked(), 3);
        Due.write(x, 1, "t00000");
        x.court(1);
        due.is("asked() behind a new COURT", x.asked(), 3);
    }

    private static void promises47And48UpperLower() {
        NeitherBare x = Due.court("t30000t30000 c0");
        due.is("upper() before", x.upper(), 0);
        due.is("lower() before", x.lower(), 1);
        x.luck();
        due.is("upper()", x.upper(), 1);
        due.is("lower()", x.lower(), 4);
        x.odds(1, 9);
        due.is("upper()", x.upper(), 3);
        due.is("lower()", x.lower(), 4);
        x.good();
        x.odds(-1, 9);
        due.is("upper() stays", x.upper(), 3);
        due.is("lower() stays", x.lower(), 4);
    }

    private static void promise49Count() {
        NeitherBare x = Due.court(ALL + " n1 x20");
        x.strike(3, 1);
        x.strike(4, 1);
        x.move(0, 0, 0);
        x.row(0, 1);
        x.row(1, 0);
        x.row(5, 0);
        x.row(4, 0);
        x.text(3, 0);
        x.keep(2);
        int[] want = {5, 8, 6, 3, 3, 3, 4, 2, 1};
        for (int what = 0; what < want.length; what++) {
            due.is("count(" + what + ")", x.count(what), want[what]);
        }
        due.is("count(9)", x.count(9), BAD);
        due.is("count(-1)", x.count(-1), BAD);
    }

    private static void promises50And51Findings() {
        NeitherBare x = Due.court("t00000 c0");
        x.tear(0);
        x.tear(1);
        x.put(0, 99, 0);
        x.mark(0, 1);
        x.row(0, 0);
        x.mean(0);
        x.row(0, -1);
        due.is("finding()", x.finding(), 5);
        int[] want = {2, 1, 1, 1, 1};
        for (int f = 1; f <= 5; f++) {
            due.is("findings(" + f + ")", x.findings(f), want[f - 1]);
        }
        due.is("findings(0)", x.findings(0), BAD);
        due.is("findings(6)", x.findings(6), BAD);
        due.is("finding() behind BAD", x.finding(), 5);
        x.mean(0);
        due.is("finding()", x.finding(), 4);
        due.is("findings(4)", x.findings(4), 2);
        x.row(0, 1);
        due.is("finding() behind what is not refused", x.finding(), 4);
    }

    private static long digestOf(long... numbers) {
        long h = 17;
        for (long v : numbers) {
            h = 31 * h + v;
        }
        return h;
    }

    private static void promise52Digest() {
        NeitherBare x = new NeitherBare();
        due.is("digest() of a new one", x.digest(), digestOf(
            0, 0, 0, 0, 0, 0, 0, 0, 0, 1, 4, 1, 4, 1, 4, 1, 4, -1, -1, -1,
            -1, -1, -1, -1, -1, -1, -1, -1, -1, -1));
        Due.write(x, 0, "t30121 b02 u3");
        x.court(0);
        x.text(0, 2);
        x.put(0, 1, 200);
        x.text(3, 0);
        Due.fill(x, 1, -7, 8);
        x.row(5, 0);
        x.move(3, 0, 3);
        x.strike(0, 1);
        x.keep(1);
        x.undo(1);
        due.is("digest()", x.digest(), digestOf(
            1, 2, 2, 1, 0, 1, 2, 2, 1, 1, 4, 1, 4, 1, 4, 3, 4, 3, 0, 1, 2, 1,
            2, 0, 2, 1, 0, 3, 3, -9, 1, 2, -1, 2, -1,
            -1, 2, -7, 8, -1, -1, -1, 0, 2, 32, -56, -1, -1, 0));
        due.is("asked() behind digest()", x.asked(), 0);
    }

    private static void constants() {
        due.is("BAD", NeitherBare.BAD, -1);
        due.is("FULL", NeitherBare.FULL, -2);
        due.is("FINDING", NeitherBare.FINDING, -3);
        due.is("STATE", NeitherBare.STATE, -4);
        due.is("SPENT", NeitherBare.SPENT, -6);
        due.is("NONE", NeitherBare.NONE, -9);
    }
}
