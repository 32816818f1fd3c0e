/** Tests of single sentences, each of them on an object of its own. */
abstract class Sentences {
    static final int BAD = -1, FULL = -2, FINDING = -3, STATE = -4, SPENT = -6, NONE = -9;
    static final int NOTHING = 1, BEYOND = 2, UNLIKE = 3, NOUGHT = 4, SIZE = 5;
    static final int CLAUSE = 0, NEITHER = 1, BOTH = 2, UNDONE = 3, HALF = 4, BUT = 5;
    static final int MIN = Integer.MIN_VALUE, MAX = Integer.MAX_VALUE;
    static final int[] NO_ROW = {-1, 6, MIN, MAX};
    static final int[] NO_TEXT = {-1, 4, MIN, MAX};
    static final int[] NO_TRAIT = {-1, 4, MIN, MAX};
    static final int[] NO_FLAG = {-1, 2, MIN, MAX};
    static final int[] NO_PLACE = {-1, 3, MIN, MAX};
    /** TRAIT 0 comes to 0, 1, 2, 3, 4, 5 by the WAYS of WAY_OF. */
    static final String LADDER = "t10000t20000t30000";
    static final int[] WAY_OF = {0, 1, 2, 4, 5, 6};
    /** Six THINGS, eight CLAUSES, the most that there may be. */
    static final String GREATEST = "t33339t33339t33339t33339t33339t33339c0n1b23u0h2x10c3n3";

    NeitherBare x = new NeitherBare();
    private Due due;

    final void lookWith(Due with) {
        due = with;
    }

    final void is(String call, long got, long want) {
        due.is(call, got, want);
    }

    final void refused(String call, int got, int finding) {
        due.finding(x, call, got, finding);
    }

    /** The answer, and what asked() tells then. */
    final void tells(String call, int got, int want, int asked) {
        is(call, got, want);
        is("asked() behind " + call, x.asked(), asked);
    }

    final void chance(String call, int got, long upper, long lower) {
        is(call, got, 1);
        is("upper() behind " + call, x.upper(), upper);
        is("lower() behind " + call, x.lower(), lower);
    }

    /** A new object whose COURT these signs tell. */
    final void court(String signs) {
        x = Due.court(signs);
    }

    final void write(int t, String signs) {
        Due.write(x, t, signs);
    }

    final void fill(int r, int... ints) {
        Due.fill(x, r, ints);
    }

    final void rowIs(int r, int... ints) {
        for (int i = 0; i < ints.length; i++) {
            tells("at(" + r + ", " + i + ")", x.at(r, i), 1, ints[i]);
        }
        is("at(" + r + ", " + ints.length + ")", x.at(r, ints.length), FINDING);
    }

    final void faultIs(String signs, int want) {
        NeitherBare y = new NeitherBare();
        Due.write(y, 3, signs);
        is("fault of '" + signs + "'", y.fault(3), want);
        is("court of '" + signs + "' is refused", y.court(3) == STATE ? 1 : 0, want == NONE ? 0 : 1);
    }

    /** Whether CLAUSE 0 HOLDS at each VALUE of TRAIT 0 on the LADDER. */
    final void holdsAt(int... want) {
        for (int v = 0; v < want.length; v++) {
            is("value(" + WAY_OF[v] + ", 0)", x.value(WAY_OF[v], 0), v);
            is("CLAUSE 0 at " + v, x.holds(WAY_OF[v]) & 1, want[v]);
        }
    }

    /** Moves both BORDERS of a TRAIT, in the order in which that can be. */
    final void bordersTo(int trait, int lower, int upper) {
        x.move(trait, 1, 5);
        x.move(trait, 0, lower);
        x.move(trait, 1, upper);
        is("border(" + trait + ", 0)", x.border(trait, 0), lower);
        is("border(" + trait + ", 1)", x.border(trait, 1), upper);
    }
}
