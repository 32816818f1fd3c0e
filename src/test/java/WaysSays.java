/** Promises 21 to 28, sentence by sentence: what a WAY comes to, the GOOD ones. */
final class WaysSays extends Sentences {

    // ---- value, cost

    @Says(of = 21, it = "The VALUE of a TRAIT of a WAY.")
    void valueOfAWay() {
        court("t30120t20130t00130");
        int[][] want = {{0, 0, 0, 0}, {3, 0, 1, 2}, {2, 0, 1, 3}, {5, 0, 2, 5}, {0, 0, 1, 3}, {3, 0, 2, 5},
            {2, 0, 2, 5}, {5, 0, 3, 5}};
        for (int way = 0; way < 8; way++) {
            for (int trait = 0; trait <= 3; trait++) {
                is("value(" + way + ", " + trait + ")", x.value(way, trait), want[way][trait]);
            }
        }
    }

    @Says(of = 21, it = "BAD.")
    void valueOfNone() {
        is("value(1, 0) without THINGS", x.value(1, 0), BAD);
        is("value(0, 4) without THINGS", x.value(0, 4), BAD);
        court(GREATEST);
        for (int none : new int[] {-1, 64, MIN, MAX}) {
            is("value(" + none + ", 0)", x.value(none, 0), BAD);
        }
        for (int none : NO_TRAIT) {
            is("value(0, " + none + ")", x.value(0, none), BAD);
        }
        is("value(63, 3)", x.value(63, 3), 5);
    }

    @Says(of = 22, it = "What a WAY COSTS.")
    void costOfAWay() {
        court("t33339t00009t00001t00000t00009t00009");
        is("cost(0)", x.cost(0), 0);
        is("cost(5)", x.cost(5), 10);
        is("cost(8)", x.cost(8), 0);
        is("cost(63)", x.cost(63), 37);
    }

    @Says(of = 22, it = "BAD.")
    void costOfNone() {
        is("cost(1) without THINGS", x.cost(1), BAD);
        court(GREATEST);
        for (int none : new int[] {-1, 64, MIN, MAX}) {
            is("cost(" + none + ")", x.cost(none), BAD);
        }
    }

    // ---- holds

    @Says(of = 23, it = "CLAUSES (bits, STRUCK ones, too) that HOLD of a WAY")
    void holdsTellsBits() {
        court(LADDER + " c0 n0 b01 u0 h0 x01 c1 u1");
        is("holds(0)", x.holds(0), 8 + 128);
        is("holds(2), at 2", x.holds(2), 2 + 8 + 16 + 128);
        is("holds(6), at 5", x.holds(6), 1 + 32 + 128);
        for (int k = 0; k <= 7; k++) {
            x.strike(k, 1);
        }
        is("holds(2), STRUCK ones, too", x.holds(2), 2 + 8 + 16 + 128);
    }

    @Says(of = 23, it = "; whether it is GOOD by asked() (1, 0).")
    void holdsTellsWhetherItIsGood() {
        court(LADDER + " c0 c1");
        tells("holds(6)", x.holds(6), 1, 0);
        x.strike(1, 1);
        tells("holds(6), GOOD", x.holds(6), 1, 1);
        tells("holds(0)", x.holds(0), 0, 0);
        x.strike(0, 1);
        tells("holds(0), GOOD without any", x.holds(0), 0, 1);
    }

    @Says(of = 23, it = "BAD.")
    void holdsOfNone() {
        is("holds(1) without THINGS", x.holds(1), BAD);
        court(GREATEST);
        for (int none : new int[] {-1, 64, MIN, MAX}) {
            is("holds(" + none + ")", x.holds(none), BAD);
        }
        court("t00000");
        is("holds(2) of one THING", x.holds(2), BAD);
    }

    // ---- good

    @Says(of = 24, it = "How many WAYS are GOOD")
    void goodTellsHowMany() {
        court(LADDER + " c0");
        is("good()", x.good(), 3);
        x.move(0, 1, 5);
        is("good(), moved", x.good(), 2);
        x.strike(0, 1);
        is("good(), STRUCK", x.good(), 8);
        court("t00000t00000t00000t00000t00000t00000 u0");
        is("good(), of six THINGS", x.good(), 64);
        court("t00000 c0");
        is("good(), none", x.good(), 0);
    }

    @Says(of = 24, it = "; the first (the least number) by asked() (NONE).")
    void goodTellsTheFirst() {
        court(LADDER + " c0");
        tells("good()", x.good(), 3, 5);
        x.move(0, 1, 3);
        tells("good(), moved", x.good(), 5, 3);
        x.strike(0, 1);
        tells("good(), STRUCK", x.good(), 8, 0);
        court("t00000 c0");
        tells("good(), none", x.good(), 0, NONE);
        court("t10000t10000t10000t10000t10000t00000 c0");
        x.move(0, 1, 5);
        tells("good(), all that give", x.good(), 2, 31);
    }

    @Says(of = 24, it = "How many WAYS are GOOD")
    void goodLooksAtEachWay() {
        court("t10000t10000t10000t10000t10000t01000 b01");
        x.move(0, 1, 5);
        bordersTo(1, 0, 1);
        tells("good(), the WAY of all", x.good(), 1, 63);
        is("cheapest()", x.cheapest(), 63);
        is("fewest()", x.fewest(), 63);
        is("tight(63)", x.tight(63), 1);
        court("t30000 u0");
        x.move(0, 1, 2);
        tells("good(), the WAY of none", x.good(), 1, 0);
        is("cheapest()", x.cheapest(), 0);
        is("fewest()", x.fewest(), 0);
    }

    @Says(of = 24, it = "STATE: no THINGS.")
    void goodWithoutThings() {
        is("good()", x.good(), STATE);
        is("asked()", x.asked(), 0);
    }

    // ---- cheapest

    @Says(of = 25, it = "The GOOD WAY of least COST")
    void cheapestOfLeastCost() {
        court("t30005t20004t30003t20006 c0");
        is("cheapest()", x.cheapest(), 6);
        court("t30009t30009t30001t30001 c0");
        is("cheapest(), the last ones", x.cheapest(), 12);
        court("t30000t30000t00009 c0");
        x.strike(0, 1);
        is("cheapest(), the WAY of none", x.cheapest(), 0);
    }

    @Says(of = 25, it = "(the least number of alike ones)")
    void cheapestOfAlikeOnes() {
        court("t30003t30003t30003 c0");
        is("cheapest()", x.cheapest(), 3);
        court("t00000t30000t30000 c0");
        is("cheapest(), for nothing", x.cheapest(), 6);
    }

    @Says(of = 25, it = "; its COST by asked().")
    void cheapestTellsItsCost() {
        court("t30005t20004t30003t20006 c0");
        tells("cheapest()", x.cheapest(), 6, 7);
        x.strike(0, 1);
        tells("cheapest(), the WAY of none", x.cheapest(), 0, 0);
        court("t10009t10009t10009t10009t10009t00009 c0");
        x.move(0, 1, 5);
        tells("cheapest(), dear", x.cheapest(), 31, 45);
    }

    @Says(of = 25, it = "NONE: none is GOOD.")
    void cheapestOfNone() {
        court("t30005 c0");
        x.thing(0, 4);
        tells("cheapest()", x.cheapest(), NONE, 5);
    }

    @Says(of = 25, it = "STATE: no THINGS.")
    void cheapestWithoutThings() {
        is("cheapest()", x.cheapest(), STATE);
    }

    // ---- fewest

    @Says(of = 26, it = "The GOOD WAY with fewest THINGS")
    void fewestThings() {
        court("t20000t20000t20000t30009t30009 c0");
        x.move(0, 1, 5);
        is("fewest(), whatever it COSTS", x.fewest(), 9);
        x.move(0, 1, 3);
        is("fewest(), one", x.fewest(), 8);
        x.strike(0, 1);
        is("fewest(), the WAY of none", x.fewest(), 0);
    }

    @Says(of = 26, it = "(likewise)")
    void fewestOfAlikeOnes() {
        court("t30009t30005t30000 c0");
        is("fewest(), the least number", x.fewest(), 3);
    }

    @Says(of = 26, it = "; how many by asked().")
    void fewestTellsHowMany() {
        court("t10000t10000t10000t01000t01000t01000 b01");
        x.move(0, 1, 3);
        x.move(1, 1, 3);
        tells("fewest(), all six", x.fewest(), 63, 6);
        x.move(0, 1, 2);
        tells("fewest(), five", x.fewest(), 59, 5);
        x.strike(0, 1);
        tells("fewest(), the WAY of none", x.fewest(), 0, 0);
    }

    @Says(of = 26, it = "NONE.")
    void fewestOfNone() {
        court("t30005 c0");
        x.thing(0, 4);
        tells("fewest()", x.fewest(), NONE, 5);
    }

    @Says(of = 26, it = "STATE: no THINGS.")
    void fewestWithoutThings() {
        is("fewest()", x.fewest(), STATE);
    }

    // ---- nearest

    @Says(of = 27, it = "The WAY of which most CLAUSES that are ON HOLD")
    void nearestOfMost() {
        court("t30000t30000t03000t03000 c0 c1 b01 u0 u1 u2");
        is("nearest(), all four", x.nearest(), 15);
        x.strike(2, 1);
        x.strike(0, 1);
        is("nearest() of those ON", x.nearest(), 0);
        x.strike(4, 1);
        is("nearest() of those ON", x.nearest(), 12);
    }

    @Says(of = 27, it = "(the least number)")
    void nearestOfAlikeOnes() {
        court("t30000t30000 c0 u0");
        is("nearest(), one each", x.nearest(), 0);
        court("t10000t10000t30000t30000 c0");
        is("nearest()", x.nearest(), 5);
    }

    @Says(of = 27, it = "; how many by asked().")
    void nearestTellsHowMany() {
        court("t30000t30000t03000t03000 c0 c1 b01 u0 u1 u2");
        tells("nearest()", x.nearest(), 15, 4);
        x.strike(5, 1);
        tells("nearest()", x.nearest(), 15, 3);
        court("t00000 c0");
        tells("nearest(), none HOLDS", x.nearest(), 0, 0);
        court("t00000");
        tells("nearest(), without CLAUSES", x.nearest(), 0, 0);
        court("t00000 u0 u0 u0 u0 u0 u0 u0 u0");
        tells("nearest(), all eight", x.nearest(), 0, 8);
    }

    @Says(of = 27, it = "The WAY of which most CLAUSES that are ON HOLD")
    void nearestLooksAtEachWay() {
        court("t10000t10000t10000t10000t10000t01000 b01 u2");
        x.move(0, 1, 5);
        bordersTo(1, 0, 1);
        tells("nearest(), the WAY of all", x.nearest(), 63, 2);
        court("t30000 u0");
        x.move(0, 1, 2);
        tells("nearest(), the WAY of none", x.nearest(), 0, 1);
    }

    @Says(of = 27, it = "STATE: no THINGS.")
    void nearestWithoutThings() {
        is("nearest()", x.nearest(), STATE);
    }

    // ---- tight

    @Says(of = 28, it = "Whether a WAY is GOOD, and is not, whichever one of its THINGS is left out (1, 0).")
    void tightWays() {
        court("t30000t20000t30000t20000 c0");
        int[] want = {0, 0, 0, 1, 0, 1, 1, 0, 0, 1, 1, 0, 1, 0, 0, 0};
        for (int way = 0; way < 16; way++) {
            is("tight(" + way + ")", x.tight(way), want[way]);
        }
    }

    @Says(of = 28, it = "Whether a WAY is GOOD, and is not, whichever one of its THINGS is left out (1, 0).")
    void tightWithoutThings() {
        court("t30000 c0");
        is("tight(0), not GOOD", x.tight(0), 0);
        x.strike(0, 1);
        is("tight(0), GOOD", x.tight(0), 1);
        is("tight(1), GOOD without it, too", x.tight(1), 0);
    }

    @Says(of = 28, it = "Whether a WAY is GOOD, and is not, whichever one of its THINGS is left out (1, 0).")
    void tightLooksAtOneThingAtATime() {
        court("t30000t30000 u0 c1");
        x.strike(1, 1);
        x.move(0, 1, 5);
        is("tight(3), not GOOD", x.tight(3), 0);
        is("tight(1)", x.tight(1), 0);
        court("t20000t20000 n0");
        bordersTo(0, 0, 5);
        is("tight(3), GOOD without the one or the other", x.tight(3), 0);
        court("t10000t20000t30000 h0");
        bordersTo(0, 3, 5);
        is("tight(5), GOOD at 4 alone", x.tight(5), 1);
    }

    @Says(of = 28, it = "BAD.")
    void tightOfNone() {
        is("tight(1) without THINGS", x.tight(1), BAD);
        court(GREATEST);
        for (int none : new int[] {-1, 64, MIN, MAX}) {
            is("tight(" + none + ")", x.tight(none), BAD);
        }
    }
}
