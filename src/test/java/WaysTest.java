/** Promises 21 to 34: WAYS, clashes, the king by turns. */
final class WaysTest {
    private static final int BAD = -1, STATE = -4, NONE = -9;
    private static final String ALL = "t21003t03012t12215t00334t30001 n0 u1 c2 b23 h0 x31";
    private static final Due due = new Due("WaysTest");

    public static void main(String[] args) {
        promise21Value();
        promise22Cost();
        promise23Holds();
        promise23HoldsByKind();
        promise24Good();
        promise25Cheapest();
        promise26Fewest();
        promise27Nearest();
        promise28Tight();
        promise29Clash();
        promise30Two();
        promise31Least();
        promise32Relent();
        promise33Game();
        promise34Names();
        withoutThings();
        due.end();
    }

    private static void promise21Value() {
        NeitherBare x = Due.court("t30121 t20132 t00133");
        due.is("value(0, 0)", x.value(0, 0), 0);
        due.is("value(1, 0)", x.value(1, 0), 3);
        due.is("value(3, 0)", x.value(3, 0), 5);
        due.is("value(5, 3)", x.value(5, 3), 5);
        due.is("value(6, 3), 5 at most", x.value(6, 3), 5);
        due.is("value(7, 2)", x.value(7, 2), 3);
        due.is("value(7, 1)", x.value(7, 1), 0);
        due.is("value(8, 0)", x.value(8, 0), BAD);
        due.is("value(-1, 0)", x.value(-1, 0), BAD);
        due.is("value(0, 4)", x.value(0, 4), BAD);
        due.is("value(0, -1)", x.value(0, -1), BAD);
    }

    private static void promise22Cost() {
        NeitherBare x = Due.court("t00009 t00009 t00001");
        due.is("cost(0)", x.cost(0), 0);
        due.is("cost(3)", x.cost(3), 18);
        due.is("cost(6)", x.cost(6), 10);
        due.is("cost(8)", x.cost(8), BAD);
        due.is("cost(-1)", x.cost(-1), BAD);
    }

    private static void promise23Holds() {
        NeitherBare x = Due.court(ALL);
        due.is("holds(0)", x.holds(0), 2);
        due.is("asked()", x.asked(), 0);
        due.is("holds(12)", x.holds(12), 14);
        x.strike(0, 1);
        x.strike(4, 1);
        x.strike(5, 1);
        due.is("holds(12), STRUCK ones", x.holds(12), 14);
        due.is("asked(): GOOD", x.asked(), 1);
        due.is("holds(1), STRUCK ones, too", x.holds(1), 19);
        due.is("asked(): not GOOD", x.asked(), 0);
        due.is("holds(32)", x.holds(32), BAD);
        due.is("holds(-1)", x.holds(-1), BAD);
    }

    /** A VALUE of each size of TRAIT 0, 1 of TRAIT 1 with THING 3. */
    private static void promise23HoldsByKind() {
        NeitherBare x = Due.court("t10000t20000t30000t02000 c0 n0 b01 u0 h0 x01");
        int[] ways = {0, 1, 2, 4, 5, 6};
        int[] want = {8, 8, 8 + 2 + 16, 8 + 2, 1 + 32, 1 + 32};
        for (int v = 0; v < ways.length; v++) {
            due.is("value", x.value(ways[v], 0), v);
            due.is("holds at " + v, x.holds(ways[v]), want[v]);
        }
        due.is("the other one is not LITTLE", x.holds(5 + 8), 1);
        x.move(1, 1, 2);
        due.is("the other one is MUCH", x.holds(5 + 8), 1 + 4);
        x.move(0, 0, 2);
        due.is("half is 3 then", x.holds(4), 2 + 8 + 16);
        due.is("LITTLE at the lower one", x.holds(2), 8);
        x.move(0, 1, 3);
        due.is("MUCH at the upper one", x.holds(4), 1 + 32);
    }

    private static void promise24Good() {
        NeitherBare x = Due.court(ALL);
        due.is("good()", x.good(), 0);
        due.is("asked()", x.asked(), NONE);
        x.strike(3, 1);
        x.strike(4, 1);
        x.strike(5, 1);
        due.is("good()", x.good(), 1);
        due.is("asked()", x.asked(), 13);
        x.strike(2, 1);
        due.is("good()", x.good(), 8);
        due.is("asked()", x.asked(), 1);
        NeitherBare y = Due.court("t00000t00000");
        due.is("good() without CLAUSES", y.good(), 4);
        due.is("asked()", y.asked(), 0);
        due.is("without THINGS", new NeitherBare().good(), STATE);
    }

    private static void promise25Cheapest() {
        NeitherBare x = Due.court("t30005t20004t30003t20006 c0");
        due.is("cheapest()", x.cheapest(), 6);
        due.is("asked()", x.asked(), 7);
        NeitherBare y = Due.court("t30003t30003t30003 c0");
        due.is("the least number of alike ones", y.cheapest(), 3);
        due.is("asked()", y.asked(), 6);
        due.is("strike(0, 1)", y.strike(0, 1), 0);
        due.is("no THING at all", y.cheapest(), 0);
        due.is("asked()", y.asked(), 0);
        NeitherBare z = Due.court("t00001 c0");
        z.value(0, 0);
        z.thing(0, 4);
        due.is("cheapest(), none is GOOD", z.cheapest(), NONE);
        due.is("asked() as it was", z.asked(), 1);
    }

    private static void promise26Fewest() {
        NeitherBare x = Due.court("t10000t10000t20000t30009t30009 c0");
        due.is("fewest()", x.fewest(), 9);
        due.is("asked()", x.asked(), 2);
        x.move(0, 1, 3);
        due.is("fewest()", x.fewest(), 8);
        due.is("asked()", x.asked(), 1);
        x.strike(0, 1);
        NeitherBare six = Due.court("t10000t10000t10000t01000t01000t01000 b01");
        six.move(0, 1, 3);
        six.move(1, 1, 3);
        due.is("fewest(), all six", six.fewest(), 63);
        due.is("asked()", six.asked(), 6);
        due.is("fewest() of all", x.fewest(), 0);
        due.is("asked()", x.asked(), 0);
        NeitherBare z = Due.court("t00001 c0");
        z.thing(0, 4);
        due.is("fewest(), none is GOOD", z.fewest(), NONE);
        due.is("asked() as it was", z.asked(), 1);
    }

    private static void promise27Nearest() {
        NeitherBare x = Due.court(ALL);
        due.is("nearest()", x.nearest(), 13);
        due.is("asked()", x.asked(), 4);
        x.strike(2, 1);
        x.strike(3, 1);
        due.is("nearest() of those ON", x.nearest(), 1);
        due.is("asked()", x.asked(), 3);
        NeitherBare y = Due.court("t00000 ");
        due.is("nearest() without CLAUSES", y.nearest(), 0);
        due.is("asked()", y.asked(), 0);
    }

    private static void promise28Tight() {
        NeitherBare x = Due.court("t30005t20004t30003t20006 c0");
        due.is("tight(6)", x.tight(6), 1);
        due.is("tight(7)", x.tight(7), 0);
        due.is("tight(4), not GOOD", x.tight(4), 0);
        due.is("tight(0), not GOOD", x.tight(0), 0);
        due.is("tight(16)", x.tight(16), BAD);
        due.is("tight(-1)", x.tight(-1), BAD);
        x.strike(0, 1);
        due.is("tight(0), GOOD without THINGS", x.tight(0), 1);
        due.is("tight(1)", x.tight(1), 0);
    }

    private static void promise29Clash() {
        NeitherBare x = Due.court(ALL);
        int[] sets = {0, 1, 8, 24, 33, 63, 64, -1, 32, 20, 7};
        int[] want = {0, 0, 0, 1, 1, 1, BAD, BAD, 1, 1, 0};
        for (int i = 0; i < sets.length; i++) {
            due.is("clash(" + sets[i] + ")", x.clash(sets[i]), want[i]);
        }
        x.strike(4, 1);
        due.is("clash(20), STRUCK ones, too", x.clash(20), 1);
        NeitherBare bare = Due.court("t30000t20000 u0");
        bare.move(0, 1, 2);
        due.is("no CLASH by the WAY of none alone", bare.clash(1), 0);
        NeitherBare y = new NeitherBare();
        due.is("clash(1) without CLAUSES", y.clash(1), BAD);
        due.is("clash(0) without THINGS", y.clash(0), STATE);
    }

    private static void promise30Two() {
        NeitherBare x = Due.court(ALL);
        due.is("two()", x.two(), 20);
        due.is("asked()", x.asked(), 8);
        x.strike(5, 1);
        due.is("two(), STRUCK ones, too", x.two(), 20);
        due.is("asked()", x.asked(), 8);
        NeitherBare y = Due.court("t30000t30000 c0");
        y.thing(0, 0);
        due.is("two(), none", y.two(), NONE);
        due.is("asked(), none", y.asked(), 0);
        NeitherBare z = Due.court("t30300t30300t03300t03300 c0 c1 u2");
        due.is("two()", z.two(), 5);
        due.is("asked()", z.asked(), 2);
    }

    private static void promise31Least() {
        NeitherBare x = Due.court(ALL);
        due.is("least()", x.least(), 1);
        due.is("asked()", x.asked(), 32);
        x.strike(5, 1);
        due.is("least(), STRUCK ones, too", x.least(), 1);
        NeitherBare y = Due.court("t22200t22000t20200t02200 u0 u1 c2 u2 c0");
        due.is("least()", y.least(), 2);
        due.is("asked()", y.asked(), 12);
        NeitherBare z = Due.court("t31000t03100t10300 c0 c1 c2 u0");
        z.move(3, 1, 5);
        due.is("least() of two", z.least(), 2);
        due.is("asked()", z.asked(), 9);
        NeitherBare none = Due.court("t30000t30000 c0");
        none.thing(0, 0);
        due.is("least(), none do", none.least(), NONE);
        due.is("asked() as it was", none.asked(), 3);
        // Any two hold of a WAY, all three of none: each pair of THINGS makes one TRAIT LITTLE no more.
        NeitherBare three = Due.court("t20000t02000t22000 c0 c1 u2");
        due.is("no two", three.two(), NONE);
        due.is("none at all", three.least(), NONE);
        NeitherBare odd = Due.court("t33010t30310t03310 c0 c1 c2 u3");
        odd.move(3, 0, 0);
        odd.move(3, 1, 3);
        odd.move(0, 1, 5);
        odd.move(1, 1, 5);
        odd.move(2, 1, 5);
        due.is("no two CLASH", odd.two(), NONE);
        due.is("three do", odd.least(), 3);
        due.is("asked()", odd.asked(), 11);
    }

    private static void promise32Relent() {
        NeitherBare x = Due.court(ALL);
        due.is("relent()", x.relent(), 2);
        due.is("asked()", x.asked(), 48);
        x.strike(5, 1);
        due.is("relent() of those ON", x.relent(), 1);
        due.is("asked()", x.asked(), 16);
        x.strike(4, 1);
        due.is("relent(), none", x.relent(), 0);
        due.is("asked()", x.asked(), 0);
        NeitherBare bare = Due.court("t30000t20000 u0");
        bare.move(0, 1, 2);
        due.is("relent(), the WAY of none is GOOD", bare.relent(), 0);
        due.is("nearest(), the WAY of none", bare.nearest(), 0);
        due.is("good(), the WAY of none", bare.good(), 1);
        NeitherBare y = Due.court("t00000 c0 c0 u0");
        due.is("relent() of alike ones", y.relent(), 2);
        due.is("asked()", y.asked(), 3);
    }

    private static void promise33Game() {
        NeitherBare x = Due.court(ALL);
        due.is("game(0)", x.game(0), 1);
        due.is("game(1)", x.game(1), 0);
        due.is("game(3)", x.game(3), 0);
        x.strike(3, 1);
        x.strike(4, 1);
        x.strike(5, 1);
        due.is("game(2)", x.game(2), 0);
        due.is("game(3)", x.game(3), 1);
        due.is("game(4)", x.game(4), BAD);
        due.is("game(-1)", x.game(-1), BAD);
        NeitherBare y = Due.court("t30000t30000 c0");
        due.is("one turn is too few", y.game(1), 0);
        due.is("he names none at the second turn", y.game(2), 1);
        y.strike(0, 1);
        due.is("no CLAUSE at all", y.game(1), 1);
        NeitherBare z = Due.court("t30000t00000 u0 c1");
        z.move(0, 1, 3);
        due.is("she takes none", z.game(1), 0);
        z.strike(1, 1);
        due.is("she takes none", z.game(1), 1);
    }

    private static void promise34Names() {
        NeitherBare x = Due.court(ALL);
        due.is("names(1)", x.names(1), 2);
        due.is("names(2)", x.names(2), 0);
        due.is("names(3)", x.names(3), 0);
        x.strike(2, 1);
        due.is("names(1) of those ON", x.names(1), 3);
        x.strike(3, 1);
        x.strike(4, 1);
        x.strike(5, 1);
        due.is("names(1), he does not win", x.names(1), NONE);
        due.is("names(0)", x.names(0), BAD);
        due.is("names(4)", x.names(4), BAD);
        due.is("names(-1)", x.names(-1), BAD);
        due.is("names(1), no CLAUSE", Due.court("t00000").names(1), NONE);
    }

    private static void withoutThings() {
        NeitherBare x = new NeitherBare();
        due.is("value(0, 3)", x.value(0, 3), 0);
        due.is("value(1, 3)", x.value(1, 3), BAD);
        due.is("cost(0)", x.cost(0), 0);
        due.is("cost(1)", x.cost(1), BAD);
        due.is("holds(0)", x.holds(0), 0);
        due.is("asked()", x.asked(), 1);
        due.is("tight(0)", x.tight(0), 1);
        due.is("cheapest()", x.cheapest(), STATE);
        due.is("fewest()", x.fewest(), STATE);
        due.is("nearest()", x.nearest(), STATE);
        due.is("two()", x.two(), STATE);
        due.is("least()", x.least(), STATE);
        due.is("relent()", x.relent(), STATE);
        due.is("game(1)", x.game(1), STATE);
        due.is("game(4)", x.game(4), BAD);
        due.is("names(1)", x.names(1), STATE);
        due.is("names(0)", x.names(0), BAD);
        due.is("asked() as it was", x.asked(), 1);
    }
}
