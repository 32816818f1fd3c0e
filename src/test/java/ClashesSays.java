/** Promises 29 to 32, sentence by sentence: which CLAUSES CLASH, what the king may relent. */
final class ClashesSays extends Sentences {
    /** CLAUSE 2 CLASHES alone, 0 and 1 with each other. */
    private static final String CLASHING = "t30000t30000 c0 u0 c1";

    /** No two CLASH; 0, 1 and 3 do: any two of 0, 1, 2 want all THINGS, and 3 wants two at most. */
    private void threeClash() {
        court("t33010t30310t03310 c0 c1 c2 u3");
        bordersTo(0, 1, 5);
        bordersTo(1, 1, 5);
        bordersTo(2, 1, 5);
        bordersTo(3, 0, 3);
    }

    // ---- clash

    @Says(of = 29, it = "Whether CLAUSES of a set (bits) CLASH (1, 0")
    void clashOfSets() {
        court(CLASHING);
        int[] want = {0, 0, 0, 1, 1, 1, 1, 1};
        for (int set = 0; set < 8; set++) {
            is("clash(" + set + ")", x.clash(set), want[set]);
        }
        for (int k = 0; k <= 2; k++) {
            x.strike(k, 1);
        }
        is("clash(3), STRUCK ones", x.clash(3), 1);
        is("clash(2), STRUCK ones", x.clash(2), 0);
        threeClash();
        is("clash(11)", x.clash(11), 1);
        is("clash(7)", x.clash(7), 0);
        is("clash(9)", x.clash(9), 0);
    }

    @Says(of = 29, it = "Whether CLAUSES of a set (bits) CLASH (1, 0")
    void clashOfEight() {
        court("t00000 u0 u0 u0 u0 u0 u0 u0 c0");
        is("clash(127)", x.clash(127), 0);
        is("clash(128)", x.clash(128), 1);
        is("clash(255)", x.clash(255), 1);
    }

    @Says(of = 29, it = "Whether CLAUSES of a set (bits) CLASH (1, 0")
    void clashLooksAtEachWay() {
        court("t30000 u0");
        x.move(0, 1, 2);
        is("clash(1), but for the WAY of none", x.clash(1), 0);
        court("t10000t10000t10000t10000t10000t01000 b01");
        x.move(0, 1, 5);
        bordersTo(1, 0, 1);
        is("clash(1), but for the WAY of all", x.clash(1), 0);
        court("t00000t00000t00000t00000t00000t00000 c0");
        is("clash(1), of six THINGS", x.clash(1), 1);
    }

    @Says(of = 29, it = "; of none: 0)")
    void clashOfNone() {
        court(CLASHING);
        is("clash(0)", x.clash(0), 0);
        court("t00000");
        is("clash(0) without CLAUSES", x.clash(0), 0);
    }

    @Says(of = 29, it = "BAD: CLAUSES that there are not")
    void clashOfNoSuch() {
        court(CLASHING);
        for (int none : new int[] {8, 9, 15, 128, 1 << 30, -1, MIN, MAX}) {
            is("clash(" + none + ")", x.clash(none), BAD);
        }
        court("t00000");
        is("clash(1) without CLAUSES", x.clash(1), BAD);
        court(GREATEST);
        is("clash(256)", x.clash(256), BAD);
    }

    @Says(of = 29, it = "; STATE: no THINGS.")
    void clashWithoutThings() {
        is("clash(0)", x.clash(0), STATE);
        is("clash(1)", x.clash(1), BAD);
    }

    // ---- two

    @Says(of = 30, it = "The set of one or two CLAUSES (bits) that CLASH, the least number")
    void twoTellsTheLeastNumber() {
        court(CLASHING);
        is("two()", x.two(), 3);
        court("t30000t30000 u1 c0 u0");
        is("two(), the last two", x.two(), 6);
        court("t30000t30000 u1 c1 c0 u0");
        is("two(), one alone", x.two(), 2);
        court("t00000 c0");
        tells("two(), the only one", x.two(), 1, 1);
        court("t30000t30000 c0 u0");
        tells("two(), the only two", x.two(), 3, 1);
        court("t00000 u0 u0 u0 u0 u0 u0 u0 c0");
        is("two(), the last one", x.two(), 128);
        x.strike(7, 1);
        is("two(), STRUCK ones, too", x.two(), 128);
    }

    @Says(of = 30, it = "; how many such sets there are by asked().")
    void twoTellsHowMany() {
        court(CLASHING);
        tells("two(): 3, 4, 5, 6", x.two(), 3, 4);
        court("t30000t30000 u1 c0 u0");
        tells("two(): 6 alone", x.two(), 6, 1);
        court("t00000 c0 c0 c0 c0 c0 c0 c0 c0");
        tells("two(): each, each two", x.two(), 1, 8 + 28);
    }

    @Says(of = 30, it = "NONE: none (asked() 0).")
    void twoOfNone() {
        court("t30005t30000 c0");
        x.thing(0, 4);
        tells("two()", x.two(), NONE, 0);
        court("t30005");
        x.thing(0, 4);
        tells("two() without CLAUSES", x.two(), NONE, 0);
        threeClash();
        tells("two(), though three CLASH", x.two(), NONE, 0);
    }

    @Says(of = 30, it = "STATE: no THINGS.")
    void twoWithoutThings() {
        is("two()", x.two(), STATE);
    }

    // ---- least

    @Says(of = 31, it = "The fewest CLAUSES that CLASH")
    void leastTellsHowMany() {
        court(CLASHING);
        is("least(), one alone", x.least(), 1);
        court("t30000t30000 c0 u0");
        is("least(), two", x.least(), 2);
        x.strike(0, 1);
        is("least(), STRUCK ones, too", x.least(), 2);
        threeClash();
        is("least(), three", x.least(), 3);
    }

    @Says(of = 31, it = "; which by asked() (bits, the least number of as few).")
    void leastTellsWhich() {
        court(CLASHING);
        tells("least(), one alone, though two CLASH ahead", x.least(), 1, 4);
        court("t30000t30000 u1 u2 c1 c2");
        tells("least(), the first one", x.least(), 1, 4);
        court("t30000t30000 c0 u1 u0 n0");
        tells("least(), the least of two", x.least(), 2, 5);
        threeClash();
        tells("least(), the least of three", x.least(), 3, 11);
        court("t00000 u0 u0 u0 u0 u0 u0 u0 c0");
        tells("least(), the last one", x.least(), 1, 128);
    }

    @Says(of = 31, it = "The fewest CLAUSES that CLASH")
    void leastOfAFewClauses() {
        court("t00000 c0");
        tells("least(), the only one", x.least(), 1, 1);
        court("t11020t33200t20100t30300 n1 c2 u0 u3");
        bordersTo(0, 1, 5);
        bordersTo(1, 0, 4);
        bordersTo(2, 1, 3);
        bordersTo(3, 0, 2);
        tells("least(), all four", x.least(), 4, 15);
        tells("two()", x.two(), NONE, 0);
    }

    @Says(of = 31, it = "NONE: none do.")
    void leastOfNone() {
        court("t30005t30000 c0");
        x.thing(0, 4);
        tells("least()", x.least(), NONE, 5);
        court("t30005");
        x.thing(0, 4);
        tells("least() without CLAUSES", x.least(), NONE, 5);
    }

    @Says(of = 31, it = "STATE: no THINGS.")
    void leastWithoutThings() {
        is("least()", x.least(), STATE);
    }

    // ---- relent

    @Says(of = 32, it = "The fewest CLAUSES that are ON to be STRUCK so that a WAY is GOOD")
    void relentTellsHowMany() {
        court(CLASHING);
        is("relent()", x.relent(), 2);
        x.strike(2, 1);
        is("relent() of those ON", x.relent(), 1);
        x.strike(0, 1);
        is("relent(), none", x.relent(), 0);
        court("t00000");
        is("relent() without CLAUSES", x.relent(), 0);
        court("t00000 c0 c0 c0 c0 c0 c0 c0 c0");
        is("relent(), all eight", x.relent(), 8);
        threeClash();
        is("relent()", x.relent(), 1);
    }

    @Says(of = 32, it = "; which by asked() (bits, the least number of as few).")
    void relentTellsWhich() {
        court(CLASHING);
        tells("relent()", x.relent(), 2, 1 + 4);
        x.strike(2, 1);
        tells("relent()", x.relent(), 1, 1);
        x.strike(0, 1);
        tells("relent(), none", x.relent(), 0, 0);
        court("t00000 c0 c0 c0 c0 c0 c0 c0 c0");
        tells("relent(), all eight", x.relent(), 8, 255);
        court("t30000t30000 u0 u0 c0");
        tells("relent(), the one, not the two", x.relent(), 1, 4);
        threeClash();
        tells("relent(), u3, not two of the others", x.relent(), 1, 8);
    }

    @Says(of = 32, it = "The fewest CLAUSES that are ON to be STRUCK so that a WAY is GOOD")
    void relentLooksAtEachWay() {
        court("t30000 u0");
        x.move(0, 1, 2);
        tells("relent(), the WAY of none is GOOD", x.relent(), 0, 0);
        court("t10000t10000t10000t10000t10000t01000 b01");
        x.move(0, 1, 5);
        bordersTo(1, 0, 1);
        tells("relent(), the WAY of all is GOOD", x.relent(), 0, 0);
        x.move(1, 1, 2);
        tells("relent(), none is GOOD", x.relent(), 1, 1);
    }

    @Says(of = 32, it = "STATE: no THINGS.")
    void relentWithoutThings() {
        is("relent()", x.relent(), STATE);
    }
}
