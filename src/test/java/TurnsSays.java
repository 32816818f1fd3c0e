/** Promises 33 and 34, sentence by sentence: a king by turns against her. */
final class TurnsSays extends Sentences {

    private void gamesAre(int... want) {
        for (int n = 0; n < want.length; n++) {
            is("game(" + n + ")", x.game(n), want[n]);
        }
    }

    @Says(of = 33, it = "By turns: the king names a CLAUSE that is ON")
    void heNamesThoseThatAreOn() {
        court("t00000 c0 u0");
        gamesAre(1, 0, 0, 0);
        x.strike(0, 1);
        gamesAre(1, 1, 1, 1);
    }

    @Says(of = 33, it = ", not named yet")
    void heNamesNoneAgain() {
        court("t30000t00000 c0 u0");
        x.move(0, 1, 3);
        // The one turn is hers, behind what he names; by two he names both, which CLASH.
        gamesAre(1, 1, 0, 0);
    }

    @Says(of = 33, it = ", she a THING that she did not take yet")
    void sheTakesNoThingAgain() {
        court("t20000 c0");
        gamesAre(1, 0, 0, 0);
        court("t20000t20000 c0");
        gamesAre(1, 0, 1, 1);
    }

    @Says(of = 33, it = "(or none")
    void sheTakesNone() {
        court("t30000 u0");
        x.move(0, 1, 3);
        gamesAre(1, 1, 1, 1);
    }

    @Says(of = 33, it = ": 1 THING at most each turn)")
    void oneThingAtMostEachTurn() {
        court("t20000t20000t20000 c0");
        gamesAre(1, 0, 1, 1);
        x.move(0, 1, 5);
        gamesAre(1, 0, 0, 1);
        court("t10000t10000t10000t10000 c0");
        gamesAre(1, 0, 0, 0);
    }

    @Says(of = 33, it = "; n (0 .. 3) turns each")
    void soManyTurnsEach() {
        court("t20000t20000t20000 c0");
        x.move(0, 1, 5);
        is("game(0)", x.game(0), 1);
        is("game(2), he names one, she takes two", x.game(2), 0);
        is("game(3), she takes three", x.game(3), 1);
        is("game(4)", x.game(4), BAD);
    }

    @Says(of = 33, it = "; she has won, if all CLAUSES named HOLD of what she took.")
    void sheHasWonIfAllHold() {
        court("t30000t03000t00300 c0 c1 c2");
        x.move(0, 1, 3);
        x.move(1, 1, 3);
        x.move(2, 1, 3);
        gamesAre(1, 1, 1, 1);
        court("t30000t03000 c0 c1 c2");
        x.move(0, 1, 3);
        x.move(1, 1, 3);
        gamesAre(1, 0, 0, 0);
        x.strike(2, 1);
        gamesAre(1, 1, 1, 1);
    }

    @Says(of = 33, it = "Both play best: whether she wins (1, 0).")
    void bothPlayBest() {
        // She must not take THING 0 for TRAIT 0, which makes TRAIT 1 MUCH for good; THING 1 does as well.
        court("t33000t30000 c0 u1");
        x.move(0, 1, 3);
        x.move(1, 1, 3);
        gamesAre(1, 1, 1, 1);
        // He names what wants two THINGS last, or first: by two turns she can follow the first one alone.
        court("t20000t20000t03000 c0 c1");
        x.move(1, 1, 3);
        gamesAre(1, 0, 0, 1);
    }

    @Says(of = 33, it = "A king who has no such CLAUSE left names none.")
    void heNamesNoneThen() {
        court("t30000t30000");
        gamesAre(1, 1, 1, 1);
        court("t30000t30000 c0");
        gamesAre(1, 0, 1, 1);
        x.strike(0, 1);
        gamesAre(1, 1, 1, 1);
    }

    @Says(of = 33, it = "BAD")
    void gameOfNoSuchTurns() {
        court("t00000");
        for (int none : new int[] {-1, 4, MIN, MAX}) {
            is("game(" + none + ")", x.game(none), BAD);
        }
    }

    @Says(of = 33, it = "; STATE: no THINGS.")
    void gameWithoutThings() {
        for (int n = 0; n <= 3; n++) {
            is("game(" + n + ")", x.game(n), STATE);
        }
    }

    @Says(of = 33, it = "Both play best: whether she wins (1, 0).")
    void gameOfTheGreatestCourt() {
        court("t30000t30000t03000t03000t00300t00300 c0 c1 c2 b01 b12 u3 u3 u3");
        gamesAre(1, 0, 0, 0);
        court("t00000t00000t00000t00000t30000t30000 u3 u3 u3 u3 u3 u3 u3 c0");
        gamesAre(1, 0, 1, 1);
        x.strike(7, 1);
        gamesAre(1, 1, 1, 1);
    }

    // ---- names

    @Says(of = 34, it = "The CLAUSE that the king names first so (the first by which he wins).")
    void theFirstByWhichHeWins() {
        court("t30000t30000 u0 c0 c1");
        is("names(1)", x.names(1), 1);
        is("names(2), c1 behind", x.names(2), 0);
        x.strike(1, 1);
        is("names(1) of those ON", x.names(1), 2);
        x.strike(0, 1);
        is("names(3) of those ON", x.names(3), 2);
        court("t00000 u0 u0 u0 u0 u0 u0 u0 c0");
        is("names(1), the last one", x.names(1), 7);
    }

    @Says(of = 34, it = "The CLAUSE that the king names first so (the first by which he wins).")
    void theFirstByWhichHeWinsLater() {
        court("t20000t20000t03000 u2 c0 c1");
        x.move(1, 1, 3);
        is("names(1)", x.names(1), 1);
        is("names(2), u2 leaves him one turn, which c0 takes", x.names(2), 1);
        is("names(3), three THINGS meet all", x.names(3), NONE);
    }

    @Says(of = 34, it = "NONE: he does not win")
    void heDoesNotWin() {
        court("t30000t30000 c0");
        is("names(1)", x.names(1), 0);
        is("names(2)", x.names(2), NONE);
        is("names(3)", x.names(3), NONE);
    }

    @Says(of = 34, it = ", or there is none.")
    void thereIsNone() {
        court("t00000 c0");
        is("names(1)", x.names(1), 0);
        x.strike(0, 1);
        is("names(1), STRUCK", x.names(1), NONE);
        court("t00000");
        for (int n = 1; n <= 3; n++) {
            is("names(" + n + ") without CLAUSES", x.names(n), NONE);
        }
    }

    @Says(of = 34, it = "BAD: also n 0")
    void namesOfNoTurns() {
        court("t00000 c0");
        for (int none : new int[] {0, -1, 4, MIN, MAX}) {
            is("names(" + none + ")", x.names(none), BAD);
        }
    }

    @Says(of = 34, it = "; STATE.")
    void namesWithoutThings() {
        for (int n = 1; n <= 3; n++) {
            is("names(" + n + ")", x.names(n), STATE);
        }
        is("names(0)", x.names(0), BAD);
    }
}
