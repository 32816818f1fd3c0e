/** Promises 35 to 38, sentence by sentence: RULINGS that bind. */
final class RulingsSays extends Sentences {

    /** Thirteen RULINGS of one TRAIT and VALUE, MUCH if their place is odd. */
    private void thirteen() {
        int[] ints = new int[39];
        for (int i = 0; i < 13; i++) {
            ints[3 * i] = 3;
            ints[3 * i + 1] = 5;
            ints[3 * i + 2] = i % 2;
        }
        fill(5, ints);
    }

    // ---- contradict

    @Says(of = 35, it = "Pairs of RULINGS that CONTRADICT")
    void contradictCountsPairs() {
        fill(0, 0, 3, 1, 0, 4, 0, 0, 3, 0, 0, 2, 0);
        is("contradict(0), as great, greater", x.contradict(0), 2);
        fill(0, 0, 3, 1, 1, 3, 0, 2, 3, 0, 3, 3, 0);
        is("contradict(0), of other TRAITS", x.contradict(0), 0);
        fill(0, 0, 0, 1, 0, 5, 0, 1, 5, 1, 1, 5, 0, 2, 0, 1, 2, 0, 0);
        is("contradict(0), at the ends", x.contradict(0), 3);
        thirteen();
        is("contradict(5), of thirteen", x.contradict(5), 42);
    }

    @Says(of = 35, it = "; the first (by the first one, then the second one: 100 times it and the second) by asked() (NONE).")
    void contradictTellsTheFirst() {
        fill(0, 1, 1, 1, 0, 4, 0, 2, 0, 0, 0, 4, 1, 0, 3, 1);
        tells("contradict(0), 1 and 3", x.contradict(0), 2, 103);
        fill(0, 0, 3, 0, 0, 4, 0, 0, 3, 1, 0, 4, 1);
        tells("contradict(0), 0 and 2", x.contradict(0), 3, 2);
        fill(0, 0, 3, 1, 0, 2, 0, 0, 1, 0, 0, 5, 0, 0, 4, 0);
        tells("contradict(0), 0 and 3", x.contradict(0), 2, 3);
        int[] last = new int[39];
        last[36] = 1;
        last[38] = 1;
        last[33] = 1;
        fill(0, last);
        tells("contradict(0), 11 and 12", x.contradict(0), 1, 1112);
        fill(0, 0, 3, 1);
        tells("contradict(0) of one", x.contradict(0), 0, NONE);
        x.row(0, 0);
        tells("contradict(0) of none", x.contradict(0), 0, NONE);
    }

    @Says(of = 35, it = "BAD")
    void contradictOfNoRow() {
        for (int none : NO_ROW) {
            is("contradict(" + none + ")", x.contradict(none), BAD);
        }
    }

    @Says(of = 35, it = "NOTHING")
    void contradictOfAMissingRow() {
        refused("contradict(5)", x.contradict(5), NOTHING);
    }

    @Says(of = 35, it = "SIZE")
    void contradictNotByThrees() {
        for (int size : new int[] {1, 2, 4, 5, 40}) {
            x.row(5, size);
            refused("contradict(5) of " + size, x.contradict(5), SIZE);
        }
        x.row(5, 39);
        is("contradict(5) of 39", x.contradict(5), 0);
    }

    private static final int[][] UNLIKE_ONES = {{4, 0, 0}, {-1, 0, 0}, {0, 6, 0}, {0, -1, 0}, {0, 0, 2}, {0, 0, -1},
        {0, 0, 0, 4, 0, 0}, {0, 0, 0, 0, 6, 1}, {0, 0, 0, 0, 0, MAX}, {MIN, 0, 0}};

    @Says(of = 35, it = "UNLIKE.")
    void contradictUnlike() {
        for (int[] ints : UNLIKE_ONES) {
            fill(0, ints);
            refused("contradict(0)", x.contradict(0), UNLIKE);
        }
    }

    // ---- fix

    @Says(of = 36, it = "The fewest RULINGS to strike so that none CONTRADICT")
    void fixTellsHowMany() {
        fill(0, 2, 3, 1, 2, 3, 0, 2, 5, 0, 2, 0, 1);
        is("fix(0)", x.fix(0), 2);
        fill(0, 0, 3, 1, 0, 4, 0, 1, 4, 0, 1, 2, 1, 3, 0, 1, 3, 0, 0);
        is("fix(0), one each of three TRAITS", x.fix(0), 3);
        fill(0, 0, 0, 1, 0, 1, 1, 0, 5, 0);
        is("fix(0), the one, not the two", x.fix(0), 1);
        fill(0, 0, 2, 0, 0, 3, 1);
        is("fix(0), none CONTRADICT", x.fix(0), 0);
        thirteen();
        is("fix(5), of thirteen", x.fix(5), 6);
    }

    @Says(of = 36, it = "The fewest RULINGS to strike so that none CONTRADICT")
    void fixAtTheEnds() {
        fill(0, 0, 0, 1, 0, 0, 0, 0, 0, 0);
        tells("fix(0), MUCH at 0 is struck", x.fix(0), 1, 1);
        fill(0, 0, 0, 0, 0, 0, 1, 0, 0, 1);
        tells("fix(0), not MUCH at 0 is struck", x.fix(0), 1, 1);
        fill(0, 3, 5, 0, 3, 5, 1, 3, 5, 1);
        tells("fix(0), not MUCH at 5 is struck", x.fix(0), 1, 1);
        fill(0, 3, 5, 1, 3, 5, 0, 3, 5, 0);
        tells("fix(0), MUCH at 5 is struck", x.fix(0), 1, 1);
    }

    @Says(of = 36, it = "The fewest RULINGS to strike so that none CONTRADICT")
    void fixIfTheyArePartedAnywhere() {
        for (int v = 0; v <= 4; v++) {
            fill(0, 1, v, 0, 1, v, 0, 1, v + 1, 1, 1, v + 1, 1);
            tells("fix(0), parted above " + v, x.fix(0), 0, 0);
            fill(0, 1, v, 0, 1, v, 0, 1, v + 1, 1, 1, v + 1, 1, 1, 0, 1, 1, 5, 0);
            tells("fix(0), two besides", x.fix(0), 2, 16 + 32);
        }
    }

    @Says(of = 36, it = "; which by asked() (bits, the least number of as few).")
    void fixTellsWhich() {
        fill(0, 2, 3, 1, 2, 3, 0);
        tells("fix(0), the first of alike ones", x.fix(0), 1, 1);
        fill(0, 2, 3, 0, 2, 3, 1);
        tells("fix(0), the first of alike ones", x.fix(0), 1, 1);
        fill(0, 2, 3, 1, 2, 3, 0, 2, 5, 0, 2, 0, 1);
        tells("fix(0), 1 and 2", x.fix(0), 2, 6);
        fill(0, 1, 4, 0, 0, 3, 1, 1, 2, 1, 0, 4, 0);
        tells("fix(0), of two TRAITS", x.fix(0), 2, 1 + 2);
        thirteen();
        tells("fix(5), the MUCH ones", x.fix(5), 6, 0b0101010101010);
        fill(0, 0, 1, 0);
        tells("fix(0), none", x.fix(0), 0, 0);
        x.row(0, 0);
        tells("fix(0) of none", x.fix(0), 0, 0);
    }

    @Says(of = 36, it = "BAD")
    void fixOfNoRow() {
        for (int none : NO_ROW) {
            is("fix(" + none + ")", x.fix(none), BAD);
        }
    }

    @Says(of = 36, it = "NOTHING")
    void fixOfAMissingRow() {
        refused("fix(5)", x.fix(5), NOTHING);
    }

    @Says(of = 36, it = "SIZE")
    void fixNotByThrees() {
        for (int size : new int[] {1, 2, 4, 5, 40}) {
            x.row(5, size);
            refused("fix(5) of " + size, x.fix(5), SIZE);
        }
        x.row(5, 39);
        is("fix(5) of 39", x.fix(5), 0);
    }

    @Says(of = 36, it = "UNLIKE.")
    void fixUnlike() {
        for (int[] ints : UNLIKE_ONES) {
            fill(0, ints);
            refused("fix(0)", x.fix(0), UNLIKE);
        }
    }

    // ---- follows

    @Says(of = 37, it = "What FOLLOWS (1, 0")
    void whatFollows() {
        fill(0, 0, 3, 1, 0, 1, 0, 3, 0, 1, 2, 5, 0);
        int[] want = {0, 0, NONE, 1, 1, 1};
        for (int v = 0; v <= 5; v++) {
            is("follows(0, 0, " + v + ")", x.follows(0, 0, v), want[v]);
            is("follows(0, 3, " + v + "), MUCH at 0", x.follows(0, 3, v), 1);
            is("follows(0, 2, " + v + "), not MUCH at 5", x.follows(0, 2, v), 0);
        }
    }

    @Says(of = 37, it = "; 1 ahead of 0, if they CONTRADICT).")
    void muchIsAhead() {
        fill(0, 1, 4, 0, 1, 2, 1);
        int[] want = {0, 0, 1, 1, 1, 1};
        for (int v = 0; v <= 5; v++) {
            is("follows(0, 1, " + v + ")", x.follows(0, 1, v), want[v]);
        }
        fill(0, 1, 2, 1, 1, 4, 0);
        is("follows(0, 1, 3), the other one first", x.follows(0, 1, 3), 1);
    }

    @Says(of = 37, it = "NONE: they are SILENT.")
    void theyAreSilent() {
        fill(0, 0, 3, 1, 0, 1, 0);
        is("follows(0, 0, 2)", x.follows(0, 0, 2), NONE);
        is("follows(0, 1, 3), of another TRAIT", x.follows(0, 1, 3), NONE);
        x.row(0, 0);
        is("follows(0, 0, 0), by none", x.follows(0, 0, 0), NONE);
    }

    @Says(of = 37, it = "BAD")
    void followsOfNone() {
        x.row(0, 0);
        for (int none : NO_ROW) {
            is("follows(" + none + ", 0, 0)", x.follows(none, 0, 0), BAD);
        }
        for (int none : NO_TRAIT) {
            is("follows(0, " + none + ", 0)", x.follows(0, none, 0), BAD);
        }
        for (int none : new int[] {-1, 6, MIN, MAX}) {
            is("follows(0, 0, " + none + ")", x.follows(0, 0, none), BAD);
        }
        is("follows(0, 3, 5)", x.follows(0, 3, 5), NONE);
    }

    @Says(of = 37, it = "NOTHING")
    void followsOfAMissingRow() {
        refused("follows(5, 0, 0)", x.follows(5, 0, 0), NOTHING);
    }

    @Says(of = 37, it = "SIZE")
    void followsNotByThrees() {
        for (int size : new int[] {1, 2, 4, 5, 40}) {
            x.row(5, size);
            refused("follows(5, 0, 0) of " + size, x.follows(5, 0, 0), SIZE);
        }
        x.row(5, 39);
        is("follows(5, 0, 0) of 39", x.follows(5, 0, 0), 0);
    }

    @Says(of = 37, it = "UNLIKE.")
    void followsUnlike() {
        for (int[] ints : UNLIKE_ONES) {
            fill(0, ints);
            refused("follows(0, 2, 5), whichever TRAIT is asked", x.follows(0, 2, 5), UNLIKE);
        }
        fill(0, 0, 0, 1, 0, 0, 2);
        refused("follows(0, 0, 0), though the first one says so", x.follows(0, 0, 0), UNLIKE);
    }

    // ---- borders

    @Says(of = 38, it = "Upper BORDERS (bits 1 .. 5) of a TRAIT by which it would have been ruled so.")
    void bordersByRulings() {
        for (int v = 0; v <= 5; v++) {
            fill(0, 2, v, 1, 1, v, 0);
            is("borders(0, 2), MUCH at " + v, x.borders(0, 2), (1 << v + 1) - 2);
            is("borders(0, 1), not at " + v, x.borders(0, 1), 62 & ~((1 << v + 1) - 1));
            is("borders(0, 0), by none", x.borders(0, 0), 62);
        }
        fill(0, 0, 3, 1, 0, 1, 0);
        is("borders(0, 0), 2 and 3", x.borders(0, 0), 4 + 8);
        fill(0, 0, 3, 1, 0, 3, 0);
        is("borders(0, 0), they CONTRADICT", x.borders(0, 0), 0);
        x.row(0, 0);
        is("borders(0, 3), by none", x.borders(0, 3), 62);
    }

    @Says(of = 38, it = "BAD")
    void bordersOfNone() {
        x.row(0, 0);
        for (int none : NO_ROW) {
            is("borders(" + none + ", 0)", x.borders(none, 0), BAD);
        }
        for (int none : NO_TRAIT) {
            is("borders(0, " + none + ")", x.borders(0, none), BAD);
        }
    }

    @Says(of = 38, it = "NOTHING")
    void bordersOfAMissingRow() {
        refused("borders(5, 0)", x.borders(5, 0), NOTHING);
    }

    @Says(of = 38, it = "SIZE")
    void bordersNotByThrees() {
        for (int size : new int[] {1, 2, 4, 5, 40}) {
            x.row(5, size);
            refused("borders(5, 0) of " + size, x.borders(5, 0), SIZE);
        }
        x.row(5, 39);
        is("borders(5, 0) of 39", x.borders(5, 0), 62);
    }

    @Says(of = 38, it = "UNLIKE.")
    void bordersUnlike() {
        for (int[] ints : UNLIKE_ONES) {
            fill(0, ints);
            refused("borders(0, 2), whichever TRAIT is asked", x.borders(0, 2), UNLIKE);
        }
    }
}
