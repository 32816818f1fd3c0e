/** Promises 43 to 45, sentence by sentence: chances, LOTS. */
final class ChancesSays extends Sentences {

    // ---- odds

    @Says(of = 43, it = "Chances that a WAY is GOOD, each CLAUSE that is ON being forgotten by p (0 .. 12) of 12")
    void oddsOfEachP() {
        court("t30000 c0");
        int[][] want = {{0, 1}, {1, 12}, {1, 6}, {1, 4}, {1, 3}, {5, 12}, {1, 2}, {7, 12}, {2, 3}, {3, 4}, {5, 6},
            {11, 12}, {1, 1}};
        for (int p = 0; p <= 12; p++) {
            chance("odds(0, " + p + ")", x.odds(0, p), want[p][0], want[p][1]);
        }
        x.move(0, 1, 3);
        for (int p = 0; p <= 12; p++) {
            chance("odds(1, " + p + "), GOOD", x.odds(1, p), 1, 1);
        }
    }

    @Says(of = 43, it = "each CLAUSE that is ON being forgotten")
    void oddsOfThoseThatAreOn() {
        court("t00000 c0 c0 c0 u0");
        chance("odds(0, 6)", x.odds(0, 6), 1, 8);
        x.strike(0, 1);
        chance("odds(0, 6), one STRUCK", x.odds(0, 6), 1, 4);
        x.strike(1, 1);
        x.strike(2, 1);
        chance("odds(0, 6), all that do not HOLD", x.odds(0, 6), 1, 1);
        x.strike(3, 1);
        chance("odds(0, 0), all", x.odds(0, 0), 1, 1);
        court("t00000");
        chance("odds(1, 0) without CLAUSES", x.odds(1, 0), 1, 1);
    }

    @Says(of = 43, it = ", each by itself: 1.")
    void oddsOfEightByThemselves() {
        court("t00000 c0 c0 c0 c0 c0 c0 c0 c0");
        chance("odds(0, 0)", x.odds(0, 0), 0, 1);
        chance("odds(0, 1)", x.odds(0, 1), 1, 429981696L);
        chance("odds(0, 5)", x.odds(0, 5), 390625L, 429981696L);
        chance("odds(0, 8)", x.odds(0, 8), 256, 6561);
        chance("odds(0, 11)", x.odds(0, 11), 214358881L, 429981696L);
        chance("odds(0, 12)", x.odds(0, 12), 1, 1);
    }

    @Says(of = 43, it = "BAD.")
    void oddsOfNone() {
        is("odds(1, 0) without THINGS", x.odds(1, 0), BAD);
        court(GREATEST);
        for (int none : new int[] {-1, 64, MIN, MAX}) {
            is("odds(" + none + ", 0)", x.odds(none, 0), BAD);
        }
        for (int none : new int[] {-1, 13, MIN, MAX}) {
            is("odds(0, " + none + ")", x.odds(0, none), BAD);
        }
        is("upper()", x.upper(), 0);
        is("odds(63, 12)", x.odds(63, 12), 1);
        chance("odds(0, 5) without THINGS", (x = new NeitherBare()).odds(0, 5), 1, 1);
    }

    // ---- luck

    @Says(of = 44, it = "Chances that a WAY by chance (each alike likely) is GOOD: 1.")
    void luckOfAWayByChance() {
        court(LADDER + " c0");
        chance("luck()", x.luck(), 3, 8);
        x.move(0, 1, 5);
        chance("luck(), moved", x.luck(), 1, 4);
        x.strike(0, 1);
        chance("luck(), STRUCK", x.luck(), 1, 1);
        court("t10000t10000t10000t10000t10000t10000 c0");
        bordersTo(0, 0, 1);
        chance("luck(), 63 of 64", x.luck(), 63, 64);
        court("t00000 c0");
        chance("luck(), none", x.luck(), 0, 1);
    }

    @Says(of = 44, it = "STATE: no THINGS.")
    void luckWithoutThings() {
        is("luck()", x.luck(), STATE);
        is("upper()", x.upper(), 0);
        is("lower()", x.lower(), 1);
    }

    // ---- lots

    @Says(of = 45, it = "n (1 .. 40) WAYS by LOTS of a seed")
    void lotsOfForty() {
        court("t10000 c0");
        x.strike(0, 1);
        is("lots(1, 1), all are GOOD", x.lots(1, 1), 1);
        is("lots(40, 1), all are GOOD", x.lots(40, 1), 40);
        x.strike(0, 0);
        is("lots(40, 1), none is GOOD", x.lots(40, 1), 0);
        is("lots(0, 1)", x.lots(0, 1), BAD);
        is("lots(41, 1)", x.lots(41, 1), BAD);
    }

    private int goodOnes(int n, int seed, int ways) {
        long number = seed;
        int many = 0;
        for (int i = 0; i < n; i++) {
            number = number * 48271 % 2147483647;
            x.holds((int) (number / 16 % ways));
            many += x.asked();
        }
        return many;
    }

    @Says(of = 45, it = "(each number by 16, cut, modulo how many WAYS there are): how many are GOOD.")
    void lotsModuloHowManyWays() {
        for (int things = 1; things <= 6; things++) {
            court("t20000".repeat(things) + " n0");
            for (int seed : new int[] {1, 77, 2147483646}) {
                int want = goodOnes(40, seed, 1 << things);
                is("lots(40, " + seed + ") of " + things, x.lots(40, seed), want);
            }
        }
    }

    @Says(of = 45, it = "(each number by 16, cut, modulo how many WAYS there are): how many are GOOD.")
    void lotsOneByOne() {
        court("t00000t00000t00000t20000t00000t00000 n0");
        // From 1 by 16, cut, modulo 64: 8, 62, 52, 23, 15: THING 3 is in the first, the second, the fifth.
        int[] want = {1, 2, 2, 2, 3};
        for (int n = 1; n <= 5; n++) {
            is("lots(" + n + ", 1)", x.lots(n, 1), want[n - 1]);
        }
        is("lots(1, 1) again", x.lots(1, 1), 1);
    }

    @Says(of = 45, it = "BAD")
    void lotsOfNone() {
        court("t00000");
        for (int none : new int[] {0, -1, 41, MIN, MAX}) {
            is("lots(" + none + ", 1)", x.lots(none, 1), BAD);
        }
        for (int none : new int[] {0, -1, MIN, MAX}) {
            is("lots(1, " + none + ")", x.lots(1, none), BAD);
        }
        is("lots(40, 2147483646)", x.lots(40, 2147483646), 40);
    }

    @Says(of = 45, it = "; STATE: no THINGS.")
    void lotsWithoutThings() {
        is("lots(1, 1)", x.lots(1, 1), STATE);
        is("lots(40, 2147483646)", x.lots(40, 2147483646), STATE);
        is("lots(41, 1)", x.lots(41, 1), BAD);
    }
}
