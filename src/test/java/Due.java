/** Counts the answers of one test and tells those that are not as due. */
final class Due {
    private final String test;
    private int looked;
    private int wrong;

    Due(String test) {
        this.test = test;
    }

    void is(String call, long got, long want) {
        looked++;
        if (got != want) {
            wrong++;
            System.out.println(test + ": " + call + " answered " + got + ", due is " + want);
        }
    }

    /** For a part of the test, which tells its own name. */
    Due partFor(String name) {
        return new Due(test + ", " + name);
    }

    void add(Due part) {
        looked += part.looked;
        wrong += part.wrong;
    }

    int looked() {
        return looked;
    }

    /** The call was refused by this FINDING. */
    void finding(NeitherBare x, String call, int got, int which) {
        is(call, got, NeitherBare.FINDING);
        is("finding() behind " + call, x.finding(), which);
    }

    /** Ends the test with exit code 1 if an answer was wrong, or if there was none at all. */
    void end() {
        System.out.println(test + ": " + looked + " answers, " + wrong + " not as due");
        if (wrong != 0 || looked == 0) {
            System.exit(1);
        }
    }

    /** Lays a TEXT with these signs. */
    static void write(NeitherBare x, int t, String signs) {
        x.text(t, signs.length());
        for (int i = 0; i < signs.length(); i++) {
            x.put(t, i, signs.charAt(i));
        }
    }

    /** A new object whose COURT these signs tell. */
    static NeitherBare court(String signs) {
        NeitherBare x = new NeitherBare();
        write(x, 0, signs);
        if (x.court(0) < 1) {
            throw new IllegalStateException("no COURT: " + signs);
        }
        return x;
    }

    /** Lays a ROW with these ints. */
    static void fill(NeitherBare x, int r, int... ints) {
        x.row(r, ints.length);
        for (int i = 0; i < ints.length; i++) {
            x.lay(r, i, ints[i]);
        }
    }
}
