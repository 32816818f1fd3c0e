/** Promises 16 to 20, sentence by sentence: what is done, undone, kept. */
final class DeedsSays extends Sentences {

    private void fortyDeeds() {
        court("t00000 c0");
        for (int i = 0; i < 40; i++) {
            x.strike(0, 1 - i % 2);
        }
        is("count(3)", x.count(3), 40);
    }

    // ---- strike

    @Says(of = 16, it = "A CLAUSE is STRUCK (1), or ON (0): how many are ON then.")
    void strikeTellsHowManyAreOn() {
        court(GREATEST);
        for (int k = 7; k >= 0; k--) {
            is("strike(" + k + ", 1)", x.strike(k, 1), k);
            tells("clause(" + k + ", 3)", x.clause(k, 3), 1, 0);
        }
        for (int k = 0; k <= 7; k++) {
            is("strike(" + k + ", 0)", x.strike(k, 0), k + 1);
            tells("clause(" + k + ", 3)", x.clause(k, 3), 1, 1);
        }
        is("count(3)", x.count(3), 16);
    }

    @Says(of = 16, it = "BAD")
    void strikeOfNoClause() {
        is("strike(0, 1) without CLAUSES", x.strike(0, 1), BAD);
        court("t00000 c0 c1");
        for (int none : new int[] {-1, 2, 8, MIN, MAX}) {
            is("strike(" + none + ", 1)", x.strike(none, 1), BAD);
            is("strike(" + none + ", 0)", x.strike(none, 0), BAD);
        }
        for (int none : NO_FLAG) {
            is("strike(0, " + none + ")", x.strike(0, none), BAD);
        }
        is("count(3)", x.count(3), 0);
        is("count(2)", x.count(2), 2);
    }

    @Says(of = 16, it = "STATE: it is so")
    void strikeAsItIs() {
        court("t00000 c0 c1");
        is("strike(0, 0), ON at first", x.strike(0, 0), STATE);
        x.strike(0, 1);
        is("strike(0, 1) again", x.strike(0, 1), STATE);
        is("strike(1, 0)", x.strike(1, 0), STATE);
        is("count(3)", x.count(3), 1);
    }

    @Says(of = 16, it = "FULL: 40 DEEDS.")
    void strikeWhenFull() {
        fortyDeeds();
        is("strike(0, 1)", x.strike(0, 1), FULL);
        is("count(3)", x.count(3), 40);
        is("count(2)", x.count(2), 1);
        x.undo(39);
        is("strike(0, 0), the 40th", x.strike(0, 0), 1);
        is("strike(0, 1), the 41st", x.strike(0, 1), FULL);
    }

    @Says(of = 16, it = "(FULL last.)")
    void strikeFullLast() {
        fortyDeeds();
        is("strike(0, 0), it is so", x.strike(0, 0), STATE);
        is("strike(1, 1)", x.strike(1, 1), BAD);
        is("strike(0, 2)", x.strike(0, 2), BAD);
    }

    // ---- move

    @Says(of = 17, it = "A BORDER of a TRAIT is moved to v: what it was.")
    void moveTellsWhatItWas() {
        for (int trait = 0; trait <= 3; trait++) {
            is("move(" + trait + ", 1, 5)", x.move(trait, 1, 5), 4);
            is("move(" + trait + ", 0, 4)", x.move(trait, 0, 4), 1);
            is("border(" + trait + ", 0)", x.border(trait, 0), 4);
            is("border(" + trait + ", 1)", x.border(trait, 1), 5);
            is("move(" + trait + ", 0, 0)", x.move(trait, 0, 0), 4);
            is("move(" + trait + ", 1, 1)", x.move(trait, 1, 1), 5);
            is("border(" + trait + ", 0)", x.border(trait, 0), 0);
            is("border(" + trait + ", 1)", x.border(trait, 1), 1);
        }
        is("count(3)", x.count(3), 16);
    }

    @Says(of = 17, it = "BAD: v not 0 .. 4 (lower)")
    void moveOfTheLowerOne() {
        x.move(2, 1, 5);
        for (int none : new int[] {-1, 5, 6, MIN, MAX}) {
            is("move(2, 0, " + none + ")", x.move(2, 0, none), BAD);
        }
        is("move(2, 0, 0)", x.move(2, 0, 0), 1);
        is("move(2, 0, 4)", x.move(2, 0, 4), 0);
    }

    @Says(of = 17, it = ", 1 .. 5 (upper)")
    void moveOfTheUpperOne() {
        x.move(2, 0, 0);
        for (int none : new int[] {0, 6, -1, MIN, MAX}) {
            is("move(2, 1, " + none + ")", x.move(2, 1, none), BAD);
        }
        is("move(2, 1, 1)", x.move(2, 1, 1), 4);
        is("move(2, 1, 5)", x.move(2, 1, 5), 1);
    }

    @Says(of = 17, it = "BAD")
    void moveOfNoBorder() {
        for (int none : NO_TRAIT) {
            is("move(" + none + ", 0, 0)", x.move(none, 0, 0), BAD);
        }
        for (int none : NO_FLAG) {
            is("move(0, " + none + ", 3)", x.move(0, none, 3), BAD);
        }
        is("count(3)", x.count(3), 0);
    }

    @Says(of = 17, it = "STATE: the lower one would not be below the upper one")
    void moveNotBelow() {
        is("move(1, 0, 4), alike", x.move(1, 0, 4), STATE);
        is("move(1, 1, 1), alike", x.move(1, 1, 1), STATE);
        x.move(1, 0, 2);
        is("move(1, 1, 1), above", x.move(1, 1, 1), STATE);
        is("move(1, 1, 2), alike", x.move(1, 1, 2), STATE);
        x.move(1, 1, 3);
        is("move(1, 0, 4), above", x.move(1, 0, 4), STATE);
        is("move(1, 0, 3), alike", x.move(1, 0, 3), STATE);
        is("count(3)", x.count(3), 2);
        is("border(1, 0)", x.border(1, 0), 2);
        is("border(1, 1)", x.border(1, 1), 3);
    }

    @Says(of = 17, it = ", or it is so")
    void moveToWhereItIs() {
        is("move(0, 0, 1)", x.move(0, 0, 1), STATE);
        is("move(0, 1, 4)", x.move(0, 1, 4), STATE);
        x.move(0, 1, 5);
        is("move(0, 1, 5)", x.move(0, 1, 5), STATE);
        is("count(3)", x.count(3), 1);
    }

    @Says(of = 17, it = "; FULL.")
    void moveWhenFull() {
        fortyDeeds();
        is("move(0, 0, 0)", x.move(0, 0, 0), FULL);
        is("border(0, 0)", x.border(0, 0), 1);
        is("count(3)", x.count(3), 40);
        x.undo(39);
        is("move(0, 0, 0), the 40th", x.move(0, 0, 0), 1);
        is("move(0, 0, 1), the 41st", x.move(0, 0, 1), FULL);
    }

    @Says(of = 17, it = "(FULL last.)")
    void moveFullLast() {
        fortyDeeds();
        is("move(0, 0, 4), not below", x.move(0, 0, 4), STATE);
        is("move(0, 0, 1), it is so", x.move(0, 0, 1), STATE);
        is("move(0, 0, 5)", x.move(0, 0, 5), BAD);
    }

    // ---- undo

    @Says(of = 18, it = "DEEDS from number n on are undone: how many.")
    void undoFromANumberOn() {
        court("t00000 c0 c1");
        x.move(1, 0, 0);
        x.strike(0, 1);
        x.move(1, 0, 2);
        x.strike(0, 0);
        x.move(1, 0, 3);
        is("undo(4), the last one", x.undo(4), 1);
        is("border(1, 0)", x.border(1, 0), 2);
        is("undo(1)", x.undo(1), 3);
        is("border(1, 0)", x.border(1, 0), 0);
        is("count(2)", x.count(2), 2);
        is("count(3)", x.count(3), 1);
        is("undo(0)", x.undo(0), 1);
        is("border(1, 0)", x.border(1, 0), 1);
        is("undo(0), of none", x.undo(0), 0);
    }

    @Says(of = 18, it = "DEEDS from number n on are undone: how many.")
    void undoOfForty() {
        fortyDeeds();
        is("undo(40), none from there on", x.undo(40), 0);
        is("undo(39)", x.undo(39), 1);
        is("count(2), STRUCK again", x.count(2), 0);
        is("undo(0)", x.undo(0), 39);
        is("count(2)", x.count(2), 1);
        is("count(3)", x.count(3), 0);
    }

    @Says(of = 18, it = "DEEDS from number n on are undone: how many.")
    void undoneOnesAreGone() {
        court("t00000 c0 c1");
        x.strike(0, 1);
        x.strike(1, 1);
        x.undo(0);
        x.move(0, 0, 0);
        is("undo(0)", x.undo(0), 1);
        is("count(2)", x.count(2), 2);
        is("border(0, 0)", x.border(0, 0), 1);
    }

    @Says(of = 18, it = "BAD.")
    void undoOfNoDeed() {
        is("undo(1) of none", x.undo(1), BAD);
        x.move(0, 0, 0);
        for (int none : new int[] {-1, 2, 41, MIN, MAX}) {
            is("undo(" + none + ")", x.undo(none), BAD);
        }
        is("count(3)", x.count(3), 1);
    }

    // ---- keep

    @Says(of = 19, it = "The COURT (which are ON")
    void keepWhichAreOn() {
        court(GREATEST);
        x.strike(0, 1);
        x.strike(7, 1);
        x.keep(0);
        x.strike(3, 1);
        x.strike(7, 0);
        x.on(0);
        int[] want = {0, 1, 1, 1, 1, 1, 1, 0};
        for (int k = 0; k <= 7; k++) {
            tells("clause(" + k + ", 3)", x.clause(k, 3), 1, want[k]);
        }
    }

    @Says(of = 19, it = ", BORDERS")
    void keepBorders() {
        court("t00000");
        x.move(0, 0, 0);
        x.move(3, 1, 5);
        x.keep(1);
        x.move(0, 0, 2);
        x.move(3, 1, 2);
        x.move(2, 1, 5);
        x.on(1);
        int[] want = {0, 4, 1, 4, 1, 4, 1, 5};
        for (int b = 0; b < 8; b++) {
            is("border(" + b / 2 + ", " + b % 2 + ")", x.border(b / 2, b % 2), want[b]);
        }
    }

    @Says(of = 19, it = ", DEEDS)")
    void keepDeeds() {
        court("t00000 c0");
        x.move(0, 0, 0);
        x.strike(0, 1);
        x.keep(2);
        x.undo(0);
        x.move(1, 0, 0);
        x.move(1, 0, 2);
        x.on(2);
        is("count(3)", x.count(3), 2);
        is("undo(1)", x.undo(1), 1);
        is("count(2)", x.count(2), 1);
        is("border(0, 0)", x.border(0, 0), 0);
        is("undo(0)", x.undo(0), 1);
        is("border(0, 0)", x.border(0, 0), 1);
    }

    @Says(of = 19, it = "is kept in a place (0 .. 2): how many DEEDS.")
    void keepInEachPlace() {
        court("t00000");
        is("keep(0)", x.keep(0), 0);
        x.move(0, 0, 0);
        is("keep(1)", x.keep(1), 1);
        x.move(0, 0, 2);
        is("keep(2)", x.keep(2), 2);
        is("count(8)", x.count(8), 3);
        is("on(0)", x.on(0), 0);
        is("on(1)", x.on(1), 1);
        is("on(2)", x.on(2), 2);
        is("keep(0) over what was kept", x.keep(0), 2);
        is("count(8)", x.count(8), 3);
        x.undo(0);
        is("on(0)", x.on(0), 2);
    }

    @Says(of = 19, it = "how many DEEDS.")
    void keepOfForty() {
        fortyDeeds();
        is("keep(0)", x.keep(0), 40);
        x.undo(0);
        is("on(0)", x.on(0), 40);
        is("undo(0)", x.undo(0), 40);
        is("count(2)", x.count(2), 1);
    }

    @Says(of = 19, it = "BAD")
    void keepInNoPlace() {
        court("t00000");
        for (int none : NO_PLACE) {
            is("keep(" + none + ")", x.keep(none), BAD);
        }
        is("count(8)", x.count(8), 0);
    }

    @Says(of = 19, it = "STATE: no THINGS.")
    void keepWithoutThings() {
        for (int k = 0; k <= 2; k++) {
            is("keep(" + k + ")", x.keep(k), STATE);
        }
        x.move(0, 0, 0);
        is("keep(0), DEEDS alone", x.keep(0), STATE);
        is("count(8)", x.count(8), 0);
    }

    // ---- on

    @Says(of = 20, it = "The COURT is as it was kept: how many DEEDS.")
    void onAsItWasKept() {
        court("t00000 c0 c1");
        long digest = x.digest();
        x.strike(1, 1);
        x.move(2, 0, 3);
        x.keep(1);
        long then = x.digest();
        x.undo(0);
        x.strike(0, 1);
        is("on(1)", x.on(1), 2);
        is("digest()", x.digest(), then);
        is("on(1) again", x.on(1), 2);
        is("count(8), still kept", x.count(8), 1);
        x.move(2, 0, 0);
        is("DEEDS behind do not change what is kept", x.on(1), 2);
        is("digest()", x.digest(), then);
        is("digest() is another one", digest == then ? 1 : 0, 0);
    }

    @Says(of = 20, it = "BAD")
    void onInNoPlace() {
        court("t00000");
        x.keep(0);
        for (int none : NO_PLACE) {
            is("on(" + none + ")", x.on(none), BAD);
        }
        is("finding()", x.finding(), 0);
    }

    @Says(of = 20, it = "NOTHING.")
    void onOfNothing() {
        refused("on(0) without THINGS", x.on(0), NOTHING);
        court("t00000");
        for (int k = 0; k <= 2; k++) {
            refused("on(" + k + ")", x.on(k), NOTHING);
        }
        x.keep(1);
        refused("on(0)", x.on(0), NOTHING);
        refused("on(2)", x.on(2), NOTHING);
        is("on(1)", x.on(1), 0);
    }
}
