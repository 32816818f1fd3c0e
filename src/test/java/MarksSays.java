/** Promises 14 and 15, sentence by sentence: what a CLAUSE of a KIND tells, BORDERS. */
final class MarksSays extends Sentences {

    @Says(of = 14, it = "What a CLAUSE that IS of a KIND tells:")
    void markIsOfTheKindThatIsAsked() {
        court("t00000t00000 h0 x01");
        bordersTo(0, 0, 5);
        is("mark(0, 1), as a NEITHER", x.mark(0, NEITHER), 4);
        is("mark(0, 4), as a HALF", x.mark(0, HALF), 2);
        is("mark(1, 2), as a BOTH", x.mark(1, BOTH), 5);
        is("mark(1, 5), as a BUT", x.mark(1, BUT), 4);
        x.strike(0, 1);
        is("mark(0, 1), STRUCK", x.mark(0, NEITHER), 4);
    }

    @Says(of = 14, it = "a NEITHER one (HALF, too) how many VALUES (0 .. 5) of its TRAIT are neither MUCH nor LITTLE")
    void markOfNeither() {
        court("t00000 n2 h2 n0");
        for (int lower = 0; lower <= 4; lower++) {
            for (int upper = lower + 1; upper <= 5; upper++) {
                x.undo(0);
                bordersTo(2, lower, upper);
                is("mark(0, 1) by " + lower + ", " + upper, x.mark(0, NEITHER), upper - lower - 1);
                is("mark(1, 1) by " + lower + ", " + upper, x.mark(1, NEITHER), upper - lower - 1);
            }
        }
        is("mark(2, 1), of another TRAIT", x.mark(2, NEITHER), 2);
    }

    @Says(of = 14, it = "a BOTH one (BUT, too) the greater one of the upper BORDERS of its TRAITS")
    void markOfBoth() {
        court("t00000 b12 x12");
        is("mark(0, 2), alike", x.mark(0, BOTH), 4);
        x.move(1, 1, 5);
        is("mark(0, 2), the first", x.mark(0, BOTH), 5);
        is("mark(1, 2), the first", x.mark(1, BOTH), 5);
        x.move(1, 1, 2);
        is("mark(0, 2), the second", x.mark(0, BOTH), 4);
        is("mark(1, 2), the second", x.mark(1, BOTH), 4);
        x.move(2, 1, 3);
        is("mark(0, 2), the second", x.mark(0, BOTH), 3);
        x.move(0, 1, 5);
        x.move(3, 1, 5);
        is("mark(0, 2), of no other TRAIT", x.mark(0, BOTH), 3);
    }

    @Says(of = 14, it = "an UNDONE one how many THINGS make its TRAIT MUCH, each alone")
    void markOfUndone() {
        court("t00010t00020t00030t00030 u3 u0");
        int[] want = {4, 3, 2, 0, 0};
        x.move(3, 0, 0);
        for (int upper = 1; upper <= 5; upper++) {
            x.move(3, 1, upper);
            is("mark(0, 3) by " + upper, x.mark(0, UNDONE), want[upper - 1]);
        }
        is("mark(1, 3)", x.mark(1, UNDONE), 0);
        court("t30000t00000t30000t30000t30000t30000 u0");
        x.move(0, 1, 3);
        is("mark(0, 3), of six THINGS", x.mark(0, UNDONE), 5);
    }

    @Says(of = 14, it = "a HALF one the VALUE at which it HOLDS (NONE: at none)")
    void markOfHalf() {
        court("t00000 h1");
        int[][] want = {{NONE, 1, 1, 2, 2}, {NONE, 2, 2, 3}, {NONE, 3, 3}, {NONE, 4}, {NONE}};
        for (int lower = 0; lower <= 4; lower++) {
            for (int upper = lower + 1; upper <= 5; upper++) {
                x.undo(0);
                bordersTo(1, lower, upper);
                is("mark(0, 4) by " + lower + ", " + upper, x.mark(0, HALF), want[lower][upper - lower - 1]);
            }
        }
    }

    @Says(of = 14, it = "a BUT one of how many WAYS its second TRAIT is LITTLE.")
    void markOfBut() {
        court(LADDER + " x10 x01");
        int[] want = {1, 2, 3, 5, 6};
        x.move(0, 1, 5);
        for (int lower = 0; lower <= 4; lower++) {
            x.move(0, 0, lower);
            is("mark(0, 5) by " + lower, x.mark(0, BUT), want[lower]);
        }
        is("mark(1, 5), of all", x.mark(1, BUT), 8);
    }

    @Says(of = 14, it = "BAD: also KIND 0")
    void markOfKind0() {
        court("t00000 c0 n0");
        is("mark(0, 0), though it is a CLAUSE", x.mark(0, CLAUSE), BAD);
        is("mark(1, 0)", x.mark(1, CLAUSE), BAD);
    }

    @Says(of = 14, it = "BAD")
    void markOfNoClauseOrKind() {
        is("mark(0, 1) without CLAUSES", x.mark(0, NEITHER), BAD);
        court("t00000 n0 h0");
        for (int none : new int[] {-1, 2, MIN, MAX}) {
            is("mark(" + none + ", 1)", x.mark(none, NEITHER), BAD);
        }
        for (int none : new int[] {-1, 6, MIN, MAX}) {
            is("mark(0, " + none + ")", x.mark(0, none), BAD);
        }
        is("finding()", x.finding(), 0);
    }

    @Says(of = 14, it = "UNLIKE.")
    void markOfAnotherKind() {
        court("t00000 c0 n0 b01 u0 h0 x01");
        int[][] is = {{}, {NEITHER}, {BOTH}, {UNDONE}, {NEITHER, HALF}, {BOTH, BUT}};
        int unlike = 0;
        for (int k = 0; k <= 5; k++) {
            for (int kind = NEITHER; kind <= BUT; kind++) {
                boolean own = false;
                for (int one : is[k]) {
                    own |= one == kind;
                }
                unlike += own ? 0 : 1;
                is("mark(" + k + ", " + kind + ") is refused", x.mark(k, kind) == FINDING ? 1 : 0, own ? 0 : 1);
                is("findings(3)", x.findings(UNLIKE), unlike);
            }
        }
    }

    @Says(of = 15, it = "A BORDER of a TRAIT (0 lower, 1 upper).")
    void borderOfATrait() {
        for (int trait = 0; trait <= 3; trait++) {
            is("border(" + trait + ", 0) at first", x.border(trait, 0), 1);
            is("border(" + trait + ", 1) at first", x.border(trait, 1), 4);
        }
        x.move(3, 0, 3);
        x.move(0, 1, 5);
        int[] want = {1, 5, 1, 4, 1, 4, 3, 4};
        for (int b = 0; b < 8; b++) {
            is("border(" + b / 2 + ", " + b % 2 + ")", x.border(b / 2, b % 2), want[b]);
        }
    }

    @Says(of = 15, it = "BAD.")
    void borderIsNone() {
        for (int none : NO_TRAIT) {
            is("border(" + none + ", 0)", x.border(none, 0), BAD);
        }
        for (int none : NO_FLAG) {
            is("border(0, " + none + ")", x.border(0, none), BAD);
        }
    }
}
