/** Promises 39 to 42, sentence by sentence: loopholes, what falls, KINDS, how it was judged. */
final class LoopholesSays extends Sentences {

    // ---- worth

    @Says(of = 39, it = "By how much the cheapest GOOD WAY is cheaper, if a CLAUSE is STRUCK")
    void worthOfAClause() {
        court("t30005t20004t30003t00306t00300 c0 c2");
        is("worth(0)", x.worth(0), 7);
        is("worth(1)", x.worth(1), 6);
        x.strike(1, 1);
        is("worth(0)", x.worth(0), 7);
        court("t10009t10009t10009t10009t10009t00000 c0");
        x.move(0, 1, 5);
        is("worth(0), dear", x.worth(0), 45);
    }

    @Says(of = 39, it = "(0: not")
    void worthOfOneThatMakesItNotDearer() {
        court("t30005t30003 c0 u1 c0");
        is("worth(1)", x.worth(1), 0);
        is("worth(0), the other one wants the same", x.worth(0), 0);
        court("t30000t30000 c0");
        is("worth(0), for nothing", x.worth(0), 0);
    }

    @Says(of = 39, it = ", or it is STRUCK, whatever else)")
    void worthOfAStruckOne() {
        court("t30005t30003 c0");
        is("worth(0)", x.worth(0), 8);
        x.strike(0, 1);
        is("worth(0), STRUCK", x.worth(0), 0);
        court("t30005 c0 c1 c2");
        x.strike(2, 1);
        is("worth(2), STRUCK, though none is GOOD", x.worth(2), 0);
        x.strike(1, 1);
        is("worth(1), STRUCK, though none is GOOD but by another one", x.worth(1), 0);
    }

    @Says(of = 39, it = "; 1000: there is none but so.")
    void worthIfThereIsNoneButSo() {
        court("t30005 c0");
        is("worth(0)", x.worth(0), 1000);
        court("t30005t30000 c0 u0");
        is("worth(0)", x.worth(0), 1000);
        is("worth(1)", x.worth(1), 1000);
    }

    @Says(of = 39, it = "NONE: there is none so, either.")
    void worthIfThereIsNoneSoEither() {
        court("t30005 c0 c1");
        is("worth(0)", x.worth(0), NONE);
        is("worth(1)", x.worth(1), NONE);
        court("t30005 c0 u0");
        is("worth(1), c0 stays", x.worth(1), NONE);
        is("worth(0)", x.worth(0), 1000);
    }

    @Says(of = 39, it = "BAD")
    void worthOfNoClause() {
        court("t00000 c0 c1");
        for (int none : new int[] {-1, 2, MIN, MAX}) {
            is("worth(" + none + ")", x.worth(none), BAD);
        }
        court("t00000");
        is("worth(0) without CLAUSES", x.worth(0), BAD);
    }

    @Says(of = 39, it = "; STATE: no THINGS.")
    void worthWithoutThings() {
        // Without THINGS there are no CLAUSES, and BAD is ahead of STATE.
        is("worth(0)", x.worth(0), BAD);
    }

    // ---- falls

    @Says(of = 40, it = "WAYS that are GOOD now, and are not, if a BORDER of a TRAIT is v: how many")
    void fallsTellsHowManyFall() {
        court(LADDER + " c0");
        is("falls(0, 1, 5), 4 falls", x.falls(0, 1, 5), 1);
        is("falls(0, 1, 4), as it is", x.falls(0, 1, 4), 0);
        is("falls(0, 1, 2)", x.falls(0, 1, 2), 0);
        is("falls(0, 0, 3), the other BORDER", x.falls(0, 0, 3), 0);
        is("falls(1, 1, 5), another TRAIT", x.falls(1, 1, 5), 0);
        court(LADDER + " n0");
        is("falls(0, 0, 2)", x.falls(0, 0, 2), 1);
        is("falls(0, 1, 2)", x.falls(0, 1, 2), 3);
        x.strike(0, 1);
        is("falls(0, 1, 2), STRUCK", x.falls(0, 1, 2), 0);
        court("t10000t10000t10000t10000t10000t00000 c0");
        bordersTo(0, 0, 1);
        is("falls(0, 1, 5)", x.falls(0, 1, 5), 60);
    }

    @Says(of = 40, it = "WAYS that are GOOD now, and are not, if a BORDER of a TRAIT is v: how many")
    void fallsMovesNothing() {
        court(LADDER + " c0");
        long digest = x.digest();
        x.falls(0, 1, 5);
        x.falls(3, 0, 0);
        is("digest()", x.digest(), digest);
        is("falls(0, 0, 0) without THINGS", new NeitherBare().falls(0, 0, 0), 0);
    }

    @Says(of = 40, it = "; how many the other way round by asked().")
    void fallsTellsTheOtherWayRound() {
        court(LADDER + " c0");
        tells("falls(0, 1, 3)", x.falls(0, 1, 3), 0, 2);
        tells("falls(0, 1, 2)", x.falls(0, 1, 2), 0, 3);
        tells("falls(0, 1, 5)", x.falls(0, 1, 5), 1, 0);
        court(LADDER + " h0");
        tells("falls(0, 1, 5): from 2 to 3", x.falls(0, 1, 5), 1, 2);
        tells("falls(0, 0, 0): 2 as before", x.falls(0, 0, 0), 0, 0);
        tells("falls(0, 0, 3): none", x.falls(0, 0, 3), 1, 0);
    }

    @Says(of = 40, it = "WAYS that are GOOD now, and are not, if a BORDER of a TRAIT is v: how many")
    void fallsOfEachTrait() {
        String[] ladders = {"t10000t20000t30000", "t01000t02000t03000", "t00100t00200t00300", "t00010t00020t00030"};
        for (int trait = 0; trait <= 3; trait++) {
            court(ladders[trait] + " n" + trait);
            for (int other = 0; other <= 3; other++) {
                boolean own = other == trait;
                tells("falls(" + other + ", 1, 5)", x.falls(other, 1, 5), 0, own ? 1 : 0);
                tells("falls(" + other + ", 0, 2)", x.falls(other, 0, 2), own ? 1 : 0, 0);
                tells("falls(" + other + ", 0, 0)", x.falls(other, 0, 0), 0, own ? 1 : 0);
            }
        }
    }

    @Says(of = 40, it = "if a BORDER of a TRAIT is v")
    void fallsByAllOtherBordersAsTheyAre() {
        for (int trait = 1; trait <= 3; trait++) {
            String gift = "t0000".substring(0, 1 + trait) + "3" + "0000".substring(trait);
            court("t30000" + gift + " b0" + trait);
            x.move(0, 1, 3);
            x.move(trait, 1, 3);
            tells("falls(0, 1, 2)", x.falls(0, 1, 2), 0, 0);
            tells("falls(0, 1, 5)", x.falls(0, 1, 5), 1, 0);
            x.move(trait, 0, 2);
            tells("falls(" + trait + ", 1, 4)", x.falls(trait, 1, 4), 1, 0);
        }
    }

    @Says(of = 40, it = "BAD: also not as move() wants")
    void fallsNotAsMoveWants() {
        for (int none : NO_TRAIT) {
            is("falls(" + none + ", 0, 0)", x.falls(none, 0, 0), BAD);
        }
        for (int none : NO_FLAG) {
            is("falls(0, " + none + ", 3)", x.falls(0, none, 3), BAD);
        }
        for (int none : new int[] {-1, 5, MIN, MAX}) {
            is("falls(0, 0, " + none + ")", x.falls(0, 0, none), BAD);
        }
        for (int none : new int[] {0, 6, MIN, MAX}) {
            is("falls(0, 1, " + none + ")", x.falls(0, 1, none), BAD);
        }
    }

    @Says(of = 40, it = "; STATE: the lower one would not be below the upper one.")
    void fallsNotBelow() {
        is("falls(0, 0, 4), alike", x.falls(0, 0, 4), STATE);
        is("falls(0, 1, 1), alike", x.falls(0, 1, 1), STATE);
        x.move(0, 0, 2);
        is("falls(0, 1, 1), above", x.falls(0, 1, 1), STATE);
        x.move(0, 1, 3);
        is("falls(0, 0, 4), above", x.falls(0, 0, 4), STATE);
        is("falls(0, 0, 2), as it is", x.falls(0, 0, 2), 0);
        is("falls(0, 1, 3), as it is", x.falls(0, 1, 3), 0);
    }

    @Says(of = 40, it = "; STATE: the lower one would not be below the upper one.")
    void fallsIsNeverFull() {
        for (int i = 0; i < 40; i++) {
            x.move(0, 1, 5 - i % 2);
        }
        is("falls(0, 1, 5), no DEED", x.falls(0, 1, 5), 0);
    }

    // ---- kinds

    @Says(of = 41, it = "Of which KINDS (bits) a CLAUSE can be")
    void kindsTellsBits() {
        court(LADDER + " c0 u0");
        for (int k = 0; k <= 1; k++) {
            is("kinds(" + k + ", 3)", x.kinds(k, 3), 1 + 2 + 32);
            is("kinds(" + k + ", 5)", x.kinds(k, 5), 8);
            is("kinds(" + k + ", 1)", x.kinds(k, 1), 16);
            is("kinds(" + k + ", 0)", x.kinds(k, 0), 4);
            is("kinds(" + k + ", 2)", x.kinds(k, 2), 0);
        }
        x.strike(0, 1);
        is("kinds(0, 5), STRUCK", x.kinds(0, 5), 8);
        x.move(0, 1, 5);
        is("kinds(0, 6), moved", x.kinds(0, 6), 8);
    }

    @Says(of = 41, it = "(its TRAITS as they are")
    void kindsByItsTraits() {
        // TRAIT 2 is MUCH by THINGS 0 and 1, TRAIT 0 by THINGS 2 and 3, TRAIT 3 by none.
        court("t00300t00300t30000t30000 b20 x23 x20");
        is("kinds(0, 1), BOTH", x.kinds(0, 1), 4 + 32);
        is("kinds(1, 0), as BOTH", x.kinds(1, 0) & 4, 4);
        is("kinds(1, 4), as BUT, as CLAUSE", x.kinds(1, 4), 1 + 32);
        is("kinds(2, 1), as BOTH, as BUT", x.kinds(2, 1), 4 + 32);
    }

    @Says(of = 41, it = "; one that has no other one: the next TRAIT")
    void kindsByTheNextTrait() {
        for (int trait = 0; trait <= 2; trait++) {
            String both = new StringBuilder("t0000").insert(1 + trait, "33").substring(0, 5) + "0";
            court(both + both + " c" + trait + " n" + trait + " u" + trait + " h" + trait);
            for (int k = 0; k <= 3; k++) {
                is("kinds(" + k + ", 1)", x.kinds(k, 1), 1 + 4);
                is("kinds(" + k + ", 0)", x.kinds(k, 0), 16 + 32);
            }
        }
    }

    @Says(of = 41, it = ", behind 3 TRAIT 0)")
    void kindsBehindTrait3() {
        court("t30010t00020t00030 c3");
        is("kinds(0, 1): HALF, and BUT by THINGS 1 and 2", x.kinds(0, 1), 16 + 32);
        is("kinds(0, 0): BOTH", x.kinds(0, 0), 4);
        x.move(0, 1, 3);
        is("kinds(0, 2): BOTH with THING 0", x.kinds(0, 2), 4);
    }

    @Says(of = 41, it = "so that it HOLDS of just so many WAYS (0 .. 64).")
    void kindsOfSoManyWays() {
        court("t00000t00000t00000t00000t00000t00000 c0");
        is("kinds(0, 64)", x.kinds(0, 64), 8);
        is("kinds(0, 0)", x.kinds(0, 0), 63 - 8);
        is("kinds(0, 63)", x.kinds(0, 63), 0);
        is("kinds(0, 1)", x.kinds(0, 1), 0);
    }

    @Says(of = 41, it = "BAD.")
    void kindsOfNone() {
        is("kinds(0, 0) without CLAUSES", x.kinds(0, 0), BAD);
        court("t00000 c0 c1");
        for (int none : new int[] {-1, 2, MIN, MAX}) {
            is("kinds(" + none + ", 0)", x.kinds(none, 0), BAD);
        }
        for (int none : new int[] {-1, 65, MIN, MAX}) {
            is("kinds(0, " + none + ")", x.kinds(0, none), BAD);
        }
    }

    // ---- judged

    @Says(of = 42, it = "Judged in a ROW of pairs (a WAY, whether the CLAUSE did HOLD: 1, 0)")
    void judgedByPairs() {
        court(LADDER + " c0 n0 u0 h0");
        fill(0, 4, 1, 2, 0);
        tells("judged(0, 0), MUCH at 3, not at 2", x.judged(0, 0), 3, 3);
        tells("judged(1, 0), neither at 3, at 2 so", x.judged(1, 0), 2, 24);
        tells("judged(2, 0), not MUCH at 3, MUCH at 2", x.judged(2, 0), 0, NONE);
        tells("judged(3, 0), half at 3, not at 2", x.judged(3, 0), 3, 15);
        fill(0, 4, 0, 2, 1);
        tells("judged(2, 0), not MUCH at 2, MUCH at 3", x.judged(2, 0), 3, 3);
    }

    @Says(of = 42, it = "Judged in a ROW of pairs (a WAY, whether the CLAUSE did HOLD: 1, 0)")
    void judgedByTwentyPairs() {
        court(LADDER + " c0");
        x.row(0, 40);
        for (int i = 0; i < 20; i++) {
            x.lay(0, 2 * i, 6);
            x.lay(0, 2 * i + 1, 1);
        }
        is("judged(0, 0)", x.judged(0, 0), 15);
        x.lay(0, 38, 5);
        x.lay(0, 39, 0);
        is("judged(0, 0), the last pair, too", x.judged(0, 0), 5);
        x.lay(0, 38, 6);
        is("judged(0, 0), the last pair says no", x.judged(0, 0), 0);
    }

    @Says(of = 42, it = ": by how many pairs of BORDERS (lower below upper, 15) of its TRAIT this can be, all else as it is")
    void judgedByPairsOfBorders() {
        court(LADDER + "t03000 c0 b01 x01 b10");
        x.row(0, 0);
        for (int k = 0; k <= 3; k++) {
            is("judged(" + k + ", 0), by none", x.judged(k, 0), 15);
        }
        fill(0, 14, 1);
        is("judged(1, 0), TRAIT 1 is not MUCH at 3", x.judged(1, 0), 0);
        x.move(1, 1, 3);
        is("judged(1, 0), TRAIT 1 is MUCH at 3", x.judged(1, 0), 15);
        is("judged(3, 0), its TRAIT is 1", x.judged(3, 0), 6);
        is("judged(2, 0), TRAIT 1 is not LITTLE", x.judged(2, 0), 0);
        x.strike(1, 1);
        is("judged(1, 0), STRUCK", x.judged(1, 0), 15);
        is("border(0, 0)", x.border(0, 0), 1);
        is("border(0, 1)", x.border(0, 1), 4);
        is("count(3)", x.count(3), 2);
    }

    @Says(of = 42, it = "of its TRAIT this can be")
    void judgedOfEachTrait() {
        String[] ladders = {"t10000t20000t30000", "t01000t02000t03000", "t00100t00200t00300", "t00010t00020t00030"};
        for (int trait = 0; trait <= 3; trait++) {
            court(ladders[trait] + " n" + trait + " c" + (trait + 1) % 4);
            fill(0, 4, 1, 2, 0);
            tells("judged(0, 0) of TRAIT " + trait, x.judged(0, 0), 2, 24);
            fill(0, 7, 0, 0, 0);
            tells("judged(1, 0), never MUCH", x.judged(1, 0), 15, 1);
        }
    }

    @Says(of = 42, it = ", all else as it is")
    void judgedByAllOtherBordersAsTheyAre() {
        for (int trait = 1; trait <= 3; trait++) {
            String gift = "t0000".substring(0, 1 + trait) + "3" + "0000".substring(trait);
            court("t30000" + gift + " b0" + trait + " x0" + trait);
            fill(0, 3, 1);
            tells("judged(0, 0), the other one is not MUCH", x.judged(0, 0), 0, NONE);
            tells("judged(1, 0), the other one is not LITTLE", x.judged(1, 0), 0, NONE);
            x.move(trait, 1, 3);
            tells("judged(0, 0), MUCH at 3", x.judged(0, 0), 6, 1);
            x.move(trait, 1, 4);
            x.move(trait, 0, 3);
            tells("judged(1, 0), LITTLE at 3", x.judged(1, 0), 6, 1);
        }
    }

    @Says(of = 42, it = "; the first (10 times the lower one and the upper one) by asked() (NONE).")
    void judgedTellsTheFirst() {
        court(LADDER + " c0 n0 u0");
        x.row(0, 0);
        tells("judged(0, 0), by none", x.judged(0, 0), 15, 1);
        fill(0, 0, 1);
        tells("judged(0, 0), MUCH at 0", x.judged(0, 0), 0, NONE);
        fill(0, 5, 0);
        tells("judged(0, 0), not at 4", x.judged(0, 0), 5, 5);
        fill(0, 5, 1, 4, 0);
        tells("judged(1, 0), neither at 4, at 3 so", x.judged(1, 0), 1, 35);
        fill(0, 1, 0, 2, 1);
        tells("judged(1, 0), neither at 2, at 1 so", x.judged(1, 0), 3, 13);
        fill(0, 6, 1);
        tells("judged(2, 0), not MUCH at 5", x.judged(2, 0), 0, NONE);
    }

    @Says(of = 42, it = "BAD")
    void judgedOfNone() {
        is("judged(0, 0) without CLAUSES", x.judged(0, 0), BAD);
        court("t00000 c0");
        x.row(0, 0);
        for (int none : new int[] {-1, 1, MIN, MAX}) {
            is("judged(" + none + ", 0)", x.judged(none, 0), BAD);
        }
        for (int none : NO_ROW) {
            is("judged(0, " + none + ")", x.judged(0, none), BAD);
        }
        is("judged(1, 5), ahead of NOTHING", x.judged(1, 5), BAD);
        is("finding()", x.finding(), 0);
    }

    @Says(of = 42, it = "NOTHING")
    void judgedOfAMissingRow() {
        court("t00000 c0");
        refused("judged(0, 5)", x.judged(0, 5), NOTHING);
    }

    @Says(of = 42, it = "SIZE: not by pairs")
    void judgedNotByPairs() {
        court("t00000 c0");
        for (int size : new int[] {1, 3, 39}) {
            x.row(5, size);
            refused("judged(0, 5) of " + size, x.judged(0, 5), SIZE);
        }
        fill(5, 9, 9, 9);
        refused("judged(0, 5), ahead of UNLIKE", x.judged(0, 5), SIZE);
        x.row(5, 40);
        is("judged(0, 5) of 40", x.judged(0, 5), 15);
    }

    @Says(of = 42, it = "UNLIKE.")
    void judgedUnlike() {
        court("t00000t00000 c0");
        int[][] unlike = {{4, 0}, {-1, 0}, {MIN, 0}, {MAX, 0}, {3, 2}, {3, -1}, {0, MAX}, {0, 0, 4, 0}, {0, 0, 0, 2}};
        for (int[] ints : unlike) {
            fill(0, ints);
            refused("judged(0, 0)", x.judged(0, 0), UNLIKE);
        }
        fill(0, 3, 0);
        is("judged(0, 0)", x.judged(0, 0), 15);
    }
}
