/** Promises 35 to 42: RULINGS, loopholes, what falls. */
final class RulingsTest {
    private static final int BAD = -1, FINDING = -3, STATE = -4, NONE = -9;
    private static final int NOTHING = 1, UNLIKE = 3, SIZE = 5;
    private static final String ALL = "t21003t03012t12215t00334t30001 n0 u1 c2 b23 h0 x31";
    private static final Due due = new Due("RulingsTest");

    public static void main(String[] args) {
        promise35Contradict();
        promise36Fix();
        promise37Follows();
        promise38Borders();
        promises35To38Refused();
        promise39Worth();
        promise40Falls();
        promise41Kinds();
        promise42Judged();
        promise42JudgedRefused();
        due.end();
    }

    private static void promise35Contradict() {
        NeitherBare x = new NeitherBare();
        Due.fill(x, 0, 0, 3, 1, 0, 4, 0, 0, 2, 0, 1, 1, 1, 1, 0, 0);
        due.is("contradict(0)", x.contradict(0), 1);
        due.is("asked()", x.asked(), 1);
        Due.fill(x, 0, 1, 1, 1, 0, 4, 0, 2, 0, 0, 0, 4, 1, 0, 3, 1);
        due.is("as great, greater; he not one first", x.contradict(0), 2);
        due.is("asked()", x.asked(), 103);
        Due.fill(x, 0, 0, 3, 1, 0, 3, 0);
        due.is("as great, the MUCH one first", x.contradict(0), 1);
        Due.fill(x, 0, 0, 3, 0, 1, 3, 1, 0, 3, 1);
        due.is("as great, the MUCH one behind", x.contradict(0), 1);
        due.is("asked()", x.asked(), 2);
        Due.fill(x, 0, 0, 3, 1, 1, 4, 0, 0, 2, 0, 0, 5, 1, 1, 4, 0);
        due.is("none", x.contradict(0), 0);
        due.is("asked()", x.asked(), NONE);
        x.row(0, 0);
        due.is("of none", x.contradict(0), 0);
        due.is("asked()", x.asked(), NONE);
    }

    private static void promise36Fix() {
        NeitherBare x = new NeitherBare();
        Due.fill(x, 0, 2, 3, 1, 2, 3, 0, 2, 5, 0, 2, 0, 1);
        due.is("fix(0)", x.fix(0), 2);
        due.is("asked()", x.asked(), 6);
        Due.fill(x, 0, 0, 3, 1, 0, 4, 0, 1, 4, 0, 1, 2, 1);
        due.is("of two TRAITS", x.fix(0), 2);
        due.is("asked()", x.asked(), 5);
        Due.fill(x, 0, 0, 0, 1, 0, 0, 0, 0, 0, 0);
        due.is("MUCH at 0 is struck", x.fix(0), 1);
        due.is("asked()", x.asked(), 1);
        Due.fill(x, 0, 0, 5, 0, 0, 5, 1, 0, 5, 1);
        due.is("not MUCH at 5 is struck", x.fix(0), 1);
        due.is("asked()", x.asked(), 1);
        Due.fill(x, 0, 3, 5, 0, 3, 0, 0, 3, 5, 1, 3, 5, 0);
        due.is("MUCH at 5 is struck", x.fix(0), 1);
        due.is("asked()", x.asked(), 4);
        Due.fill(x, 0, 3, 0, 1, 3, 0, 1, 3, 0, 0);
        due.is("not MUCH at 0 is struck", x.fix(0), 1);
        due.is("asked()", x.asked(), 4);
        int[] thirteen = new int[39];
        for (int i = 0; i < 13; i++) {
            thirteen[3 * i + 1] = 2;
            thirteen[3 * i + 2] = i % 2;
        }
        Due.fill(x, 0, thirteen);
        due.is("thirteen", x.fix(0), 6);
        due.is("asked()", x.asked(), 0b0101010101010);
        x.row(0, 0);
        due.is("of none", x.fix(0), 0);
        due.is("asked()", x.asked(), 0);
    }

    private static void promise37Follows() {
        NeitherBare x = new NeitherBare();
        Due.fill(x, 0, 0, 3, 1, 0, 1, 0, 1, 2, 0, 1, 0, 1);
        int[] want = {0, 0, NONE, 1, 1, 1};
        for (int v = 0; v <= 5; v++) {
            due.is("follows(0, 0, " + v + ")", x.follows(0, 0, v), want[v]);
            due.is("follows(0, 2, " + v + ")", x.follows(0, 2, v), NONE);
            due.is("follows(0, 1, " + v + ")", x.follows(0, 1, v), 1);
        }
        due.is("follows(0, 4, 0)", x.follows(0, 4, 0), BAD);
        due.is("follows(0, -1, 0)", x.follows(0, -1, 0), BAD);
        due.is("follows(0, 0, 6)", x.follows(0, 0, 6), BAD);
        due.is("follows(0, 0, -1)", x.follows(0, 0, -1), BAD);
    }

    private static void promise38Borders() {
        NeitherBare x = new NeitherBare();
        Due.fill(x, 0, 0, 3, 1, 0, 1, 0, 1, 2, 0, 1, 0, 1, 2, 0, 1, 3, 5, 0);
        due.is("borders(0, 0)", x.borders(0, 0), 4 + 8);
        due.is("borders(0, 1), CONTRADICT", x.borders(0, 1), 0);
        due.is("borders(0, 2), MUCH at 0", x.borders(0, 2), 0);
        due.is("borders(0, 3), not at 5", x.borders(0, 3), 0);
        x.row(0, 0);
        due.is("borders(0, 3), SILENT", x.borders(0, 3), 62);
        due.is("borders(0, 4)", x.borders(0, 4), BAD);
        due.is("borders(0, -1)", x.borders(0, -1), BAD);
    }

    private static void refusedAll(NeitherBare x, int r, int which) {
        due.finding(x, "contradict(" + r + ")", x.contradict(r), which);
        due.finding(x, "fix(" + r + ")", x.fix(r), which);
        due.finding(x, "follows(" + r + ")", x.follows(r, 0, 0), which);
        due.finding(x, "borders(" + r + ")", x.borders(r, 0), which);
    }

    private static void promises35To38Refused() {
        int[][] unlike = {{4, 0, 0}, {-1, 0, 0}, {0, 6, 0}, {0, -1, 0}, {0, 0, 2}, {0, 0, -1},
            {0, 0, 0, 0, 0, 2}, {0, 0, 0, 0, 6, 0}, {0, 0, 0, 4, 0, 0}, {0, 0, 0, 0, 0, 0, 0, 6, 1}};
        NeitherBare x = new NeitherBare();
        refusedAll(x, 0, NOTHING);
        Due.fill(x, 0, 9, 9, 9, 9);
        refusedAll(x, 0, SIZE);
        x.row(0, 5);
        refusedAll(x, 0, SIZE);
        for (int[] ints : unlike) {
            Due.fill(x, 0, ints);
            refusedAll(x, 0, UNLIKE);
        }
        for (int r = -1; r <= 6; r += 7) {
            due.is("contradict", x.contradict(r), BAD);
            due.is("fix", x.fix(r), BAD);
            due.is("follows", x.follows(r, 0, 0), BAD);
            due.is("borders", x.borders(r, 0), BAD);
        }
        due.is("BAD ahead of NOTHING", x.follows(1, 4, 0), BAD);
        due.is("BAD ahead of NOTHING", x.follows(1, 0, 6), BAD);
        due.is("BAD ahead of NOTHING", x.borders(1, 4), BAD);
    }

    private static void promise39Worth() {
        NeitherBare x = Due.court(ALL);
        due.is("worth(0), none so, either", x.worth(0), NONE);
        x.strike(5, 1);
        due.is("worth(4), none but so", x.worth(4), 1000);
        due.is("worth(3), none so, either", x.worth(3), NONE);
        due.is("worth(5), it is STRUCK, whatever else", x.worth(5), 0);
        x.strike(4, 1);
        x.strike(3, 1);
        due.is("worth(0)", x.worth(0), 3);
        due.is("worth(1)", x.worth(1), 0);
        due.is("worth(2)", x.worth(2), 11);
        due.is("worth(6)", x.worth(6), BAD);
        due.is("worth(-1)", x.worth(-1), BAD);
        due.is("worth(0) without THINGS", new NeitherBare().worth(0), BAD);
    }

    private static void promise40Falls() {
        NeitherBare x = Due.court(ALL);
        x.strike(3, 1);
        x.strike(4, 1);
        x.strike(5, 1);
        int[][] calls = {{0, 1, 3, 1, 0}, {0, 0, 0, 0, 1}, {1, 1, 2, 1, 0}, {2, 1, 5, 0, 0},
            {3, 0, 3, 0, 0}, {0, 0, 1, 0, 0}, {2, 1, 4, 0, 0}, {2, 1, 2, 0, 4}};
        for (int[] c : calls) {
            due.is("falls(" + c[0] + ", " + c[1] + ", " + c[2] + ")", x.falls(c[0], c[1], c[2]), c[3]);
            due.is("asked()", x.asked(), c[4]);
        }
        due.is("BORDERS stay", x.border(2, 1), 4);
        due.is("falls(3, 0, 4)", x.falls(3, 0, 4), STATE);
        due.is("falls(0, 1, 1)", x.falls(0, 1, 1), STATE);
        due.is("falls(0, 0, 5)", x.falls(0, 0, 5), BAD);
        due.is("falls(0, 0, -1)", x.falls(0, 0, -1), BAD);
        due.is("falls(0, 1, 0)", x.falls(0, 1, 0), BAD);
        due.is("falls(0, 1, 6)", x.falls(0, 1, 6), BAD);
        due.is("falls(4, 0, 0)", x.falls(4, 0, 0), BAD);
        due.is("falls(-1, 0, 0)", x.falls(-1, 0, 0), BAD);
        due.is("falls(0, 2, 3)", x.falls(0, 2, 3), BAD);
        due.is("asked() as it was", x.asked(), 4);
        NeitherBare bare = Due.court("t30000t20000 u0");
        due.is("falls(0, 1, 2)", bare.falls(0, 1, 2), 2);
        NeitherBare none = Due.court("t30000t20000 h0");
        none.move(0, 0, 0);
        due.is("falls(0, 1, 2)", none.falls(0, 1, 2), 1);
        due.is("asked()", none.asked(), 0);
        NeitherBare y = new NeitherBare();
        due.is("falls(0, 0, 2) without THINGS", y.falls(0, 0, 2), 0);
        due.is("DEEDS", y.count(3), 0);
    }

    private static void promise41Kinds() {
        NeitherBare x = Due.court(ALL);
        x.move(2, 1, 2);
        x.move(2, 0, 0);
        x.move(0, 1, 5);
        due.is("kinds(0, 0)", x.kinds(0, 0), 0);
        due.is("kinds(3, 0)", x.kinds(3, 0), 18);
        due.is("kinds(0, 16)", x.kinds(0, 16), 2);
        due.is("kinds(3, 16)", x.kinds(3, 16), 0);
        due.is("kinds(0, 64)", x.kinds(0, 64), 0);
        due.is("kinds(0, 65)", x.kinds(0, 65), BAD);
        due.is("kinds(0, -1)", x.kinds(0, -1), BAD);
        due.is("kinds(6, 0)", x.kinds(6, 0), BAD);
        due.is("kinds(-1, 0)", x.kinds(-1, 0), BAD);
        NeitherBare y = Due.court("t30030t30030t30000 c3 u0");
        due.is("behind 3 TRAIT 0: CLAUSE 0 at 2", y.kinds(0, 2), 1 + 4);
        due.is("CLAUSE 0 at 6", y.kinds(0, 6), 8);
        due.is("UNDONE as another KIND", y.kinds(1, 4), 1 + 8 + 32);
        due.is("many 0", y.kinds(0, 0), 16 + 32);
        NeitherBare full = Due.court("t00000t00000t00000t00000t00000t00000 c0");
        due.is("64 WAYS", full.kinds(0, 64), 8);
    }

    private static void promise42Judged() {
        NeitherBare x = Due.court("t10000t20000t02000 c0 n0 b01");
        x.row(0, 0);
        due.is("judged(0, 0) by none", x.judged(0, 0), 15);
        due.is("asked()", x.asked(), 1);
        Due.fill(x, 0, 3, 1, 1, 0);
        due.is("MUCH at 3, not at 1", x.judged(0, 0), 5);
        due.is("asked()", x.asked(), 2);
        Due.fill(x, 0, 2, 1, 1, 0);
        due.is("neither at 2, at 1 so", x.judged(1, 0), 3);
        due.is("asked()", x.asked(), 13);
        Due.fill(x, 0, 2, 1, 2, 0);
        due.is("both", x.judged(1, 0), 0);
        due.is("asked()", x.asked(), NONE);
        Due.fill(x, 0, 7, 1);
        due.is("BOTH by the other BORDERS as they are", x.judged(2, 0), 0);
        x.move(1, 1, 2);
        due.is("BOTH by the other BORDERS moved", x.judged(2, 0), 6);
        due.is("asked()", x.asked(), 1);
        due.is("BORDERS stay", x.border(0, 1), 4);
        due.is("DEEDS stay", x.count(3), 1);
        x.strike(2, 1);
        due.is("a STRUCK one", x.judged(2, 0), 6);
        NeitherBare last = Due.court("t00010t00020 x32 h3");
        Due.fill(last, 0, 3, 1, 2, 0, 0, 0);
        due.is("of TRAIT 3", last.judged(0, 0), 3);
        due.is("asked()", last.asked(), 3);
        due.is("half at 3, not at 2", last.judged(1, 0), 3);
        due.is("asked()", last.asked(), 15);
    }

    private static void promise42JudgedRefused() {
        NeitherBare x = Due.court("t10000t20000 c0");
        due.finding(x, "judged(0, 0)", x.judged(0, 0), NOTHING);
        due.is("judged(1, 0)", x.judged(1, 0), BAD);
        due.is("judged(-1, 0)", x.judged(-1, 0), BAD);
        due.is("judged(0, 6)", x.judged(0, 6), BAD);
        due.is("judged(0, -1)", x.judged(0, -1), BAD);
        Due.fill(x, 0, 9, 9, 9);
        due.finding(x, "judged(0, 0)", x.judged(0, 0), SIZE);
        int[][] unlike = {{4, 0}, {-1, 0}, {3, 2}, {3, -1}, {0, 0, 4, 1}, {0, 0, 0, 2}, {0, 0, 0, 0, 0, 2}};
        for (int[] ints : unlike) {
            Due.fill(x, 0, ints);
            due.finding(x, "judged(0, 0)", x.judged(0, 0), UNLIKE);
        }
    }
}
