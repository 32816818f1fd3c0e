/** Promises 1 to 7, sentence by sentence: a new object, ROWS. */
final class RowsSays extends Sentences {

    @Says(of = 1, it = "No ROWS")
    void newWithoutRows() {
        is("count(6)", x.count(6), 0);
        for (int r = 0; r <= 5; r++) {
            refused("at(" + r + ", 0)", x.at(r, 0), NOTHING);
        }
    }

    @Says(of = 1, it = ", TEXTS")
    void newWithoutTexts() {
        is("count(7)", x.count(7), 0);
        for (int t = 0; t <= 3; t++) {
            refused("court(" + t + ")", x.court(t), NOTHING);
        }
    }

    @Says(of = 1, it = ", THINGS, CLAUSES.")
    void newWithoutThingsAndClauses() {
        for (int what = 0; what <= 5; what++) {
            is("count(" + what + ")", x.count(what), 0);
        }
        is("thing(0, 4)", x.thing(0, 4), BAD);
        is("clause(0, 0)", x.clause(0, 0), BAD);
        is("good()", x.good(), STATE);
        is("count(8)", x.count(8), 0);
    }

    // ---- row

    @Says(of = 2, it = "A ROW is there with n ints 0: n.")
    void rowIsThereWithInts0() {
        is("row(0, 3)", x.row(0, 3), 3);
        rowIs(0, 0, 0, 0);
        is("row(5, 0)", x.row(5, 0), 0);
        refused("at(5, 0)", x.at(5, 0), BEYOND);
        is("count(6)", x.count(6), 2);
    }

    @Says(of = 2, it = "A ROW is there with n ints 0: n.")
    void rowAnewHasInts0() {
        fill(0, 7, 8, 9);
        is("row(0, 2)", x.row(0, 2), 2);
        rowIs(0, 0, 0);
        is("row(0, 4)", x.row(0, 4), 4);
        rowIs(0, 0, 0, 0, 0);
    }

    @Says(of = 2, it = "A ROW is there with n ints 0: n.")
    void rowLeavesTheOthersAlone() {
        fill(0, 7, 8);
        fill(2, 9);
        x.row(1, 40);
        rowIs(0, 7, 8);
        rowIs(2, 9);
    }

    @Says(of = 2, it = "BAD")
    void rowIsNone() {
        for (int none : NO_ROW) {
            is("row(" + none + ", 1)", x.row(none, 1), BAD);
        }
        is("count(6)", x.count(6), 0);
    }

    @Says(of = 2, it = "BAD: also n above 40")
    void rowAboveForty() {
        is("row(0, 41)", x.row(0, 41), BAD);
        is("row(0, MAX)", x.row(0, MAX), BAD);
        is("count(6)", x.count(6), 0);
        is("row(0, 40)", x.row(0, 40), 40);
    }

    @Says(of = 2, it = "SIZE: below 0")
    void rowBelowNone() {
        refused("row(0, -1)", x.row(0, -1), SIZE);
        refused("row(5, MIN)", x.row(5, MIN), SIZE);
        is("count(6)", x.count(6), 0);
        fill(0, 7);
        refused("row(0, -1)", x.row(0, -1), SIZE);
        rowIs(0, 7);
    }

    // ---- lay

    @Says(of = 3, it = "Place i of a ROW is v: what it was, told by asked(): 1.")
    void layTellsWhatItWas() {
        x.row(2, 40);
        tells("lay(2, 0, MIN)", x.lay(2, 0, MIN), 1, 0);
        tells("lay(2, 0, MAX)", x.lay(2, 0, MAX), 1, MIN);
        tells("lay(2, 0, -1)", x.lay(2, 0, -1), 1, MAX);
        tells("lay(2, 39, 5)", x.lay(2, 39, 5), 1, 0);
        tells("at(2, 39)", x.at(2, 39), 1, 5);
        tells("at(2, 38)", x.at(2, 38), 1, 0);
        tells("at(2, 0)", x.at(2, 0), 1, -1);
    }

    @Says(of = 3, it = "BAD")
    void layInNoRow() {
        for (int none : NO_ROW) {
            is("lay(" + none + ", 0, 1)", x.lay(none, 0, 1), BAD);
        }
    }

    @Says(of = 3, it = "NOTHING")
    void layInAMissingRow() {
        for (int r = 0; r <= 5; r++) {
            refused("lay(" + r + ", 0, 1)", x.lay(r, 0, 1), NOTHING);
        }
        x.row(1, 1);
        x.tear(1);
        refused("lay(1, 0, 1), torn", x.lay(1, 0, 1), NOTHING);
        refused("lay(1, 40, 1), torn", x.lay(1, 40, 1), NOTHING);
    }

    @Says(of = 3, it = "BEYOND")
    void layBeyond() {
        x.row(0, 3);
        x.row(1, 0);
        for (int none : new int[] {3, -1, 40, MIN, MAX}) {
            refused("lay(0, " + none + ", 1)", x.lay(0, none, 1), BEYOND);
        }
        refused("lay(1, 0, 1), none in it", x.lay(1, 0, 1), BEYOND);
        is("lay(0, 2, 1)", x.lay(0, 2, 1), 1);
    }

    // ---- at

    @Says(of = 4, it = "Place i of a ROW, told by asked(): 1.")
    void atTellsThePlace() {
        x.row(5, 40);
        x.lay(5, 0, MIN);
        x.lay(5, 39, MAX);
        tells("at(5, 0)", x.at(5, 0), 1, MIN);
        tells("at(5, 39)", x.at(5, 39), 1, MAX);
        tells("at(5, 1)", x.at(5, 1), 1, 0);
        tells("at(5, 0) again", x.at(5, 0), 1, MIN);
    }

    @Says(of = 4, it = "BAD")
    void atInNoRow() {
        for (int none : NO_ROW) {
            is("at(" + none + ", 0)", x.at(none, 0), BAD);
        }
    }

    @Says(of = 4, it = "NOTHING")
    void atInAMissingRow() {
        for (int r = 0; r <= 5; r++) {
            refused("at(" + r + ", 0)", x.at(r, 0), NOTHING);
            refused("at(" + r + ", -1)", x.at(r, -1), NOTHING);
        }
    }

    @Says(of = 4, it = "BEYOND")
    void atBeyond() {
        x.row(0, 3);
        x.row(1, 0);
        x.row(2, 40);
        for (int none : new int[] {3, -1, MIN, MAX}) {
            refused("at(0, " + none + ")", x.at(0, none), BEYOND);
        }
        refused("at(1, 0), none in it", x.at(1, 0), BEYOND);
        refused("at(2, 40)", x.at(2, 40), BEYOND);
    }

    // ---- tear

    @Says(of = 5, it = "A ROW is missing: 1.")
    void tearMakesItMissing() {
        fill(0, 7);
        fill(1, 8);
        x.row(2, 0);
        is("tear(0)", x.tear(0), 1);
        is("tear(2), none in it", x.tear(2), 1);
        is("count(6)", x.count(6), 1);
        refused("at(0, 0)", x.at(0, 0), NOTHING);
        rowIs(1, 8);
        is("row(0, 1)", x.row(0, 1), 1);
        rowIs(0, 0);
    }

    @Says(of = 5, it = "BAD")
    void tearNoRow() {
        for (int none : NO_ROW) {
            is("tear(" + none + ")", x.tear(none), BAD);
        }
    }

    @Says(of = 5, it = "NOTHING")
    void tearAMissingRow() {
        refused("tear(5)", x.tear(5), NOTHING);
        x.row(5, 1);
        x.tear(5);
        refused("tear(5) again", x.tear(5), NOTHING);
    }

    // ---- copy

    @Says(of = 6, it = "n places of a ROW, from one on, come to those of another one")
    void copyToAnotherRow() {
        fill(0, 1, 2, 3, 4);
        fill(5, 6, 7, 8);
        is("copy(0, 2, 5, 1, 2)", x.copy(0, 2, 5, 1, 2), 1);
        rowIs(5, 6, 3, 4);
        rowIs(0, 1, 2, 3, 4);
        is("copy(5, 0, 0, 3, 1)", x.copy(5, 0, 0, 3, 1), 1);
        rowIs(0, 1, 2, 3, 6);
    }

    @Says(of = 6, it = "n places of a ROW, from one on, come to those of another one")
    void copyOfNone() {
        fill(0, 1, 2);
        x.row(1, 0);
        is("copy(0, 1, 1, 0, 0)", x.copy(0, 1, 1, 0, 0), 1);
        is("copy(1, 0, 0, 2, 0), at the end", x.copy(1, 0, 0, 2, 0), 1);
        rowIs(0, 1, 2);
    }

    @Says(of = 6, it = "n places of a ROW, from one on, come to those of another one")
    void copyOfForty() {
        x.row(0, 40);
        x.row(1, 40);
        x.lay(0, 0, 5);
        x.lay(0, 39, 6);
        is("copy(0, 0, 1, 0, 40)", x.copy(0, 0, 1, 0, 40), 1);
        tells("at(1, 0)", x.at(1, 0), 1, 5);
        tells("at(1, 39)", x.at(1, 39), 1, 6);
    }

    @Says(of = 6, it = "(perhaps itself) from one on, as if taken ahead: 1.")
    void copyToItself() {
        fill(0, 1, 2, 3, 4, 5);
        is("copy(0, 0, 0, 1, 4)", x.copy(0, 0, 0, 1, 4), 1);
        rowIs(0, 1, 1, 2, 3, 4);
        fill(1, 1, 2, 3, 4, 5);
        is("copy(1, 1, 1, 0, 4)", x.copy(1, 1, 1, 0, 4), 1);
        rowIs(1, 2, 3, 4, 5, 5);
        is("copy(1, 0, 1, 0, 5)", x.copy(1, 0, 1, 0, 5), 1);
        rowIs(1, 2, 3, 4, 5, 5);
    }

    @Says(of = 6, it = "BAD")
    void copyOfNoRow() {
        x.row(0, 1);
        for (int none : NO_ROW) {
            is("copy(" + none + ", 0, 0, 0, 1)", x.copy(none, 0, 0, 0, 1), BAD);
            is("copy(0, 0, " + none + ", 0, 1)", x.copy(0, 0, none, 0, 1), BAD);
            is("copy(0, 0, " + none + ", 0, 0)", x.copy(0, 0, none, 0, 0), BAD);
        }
    }

    @Says(of = 6, it = "SIZE: n below 0")
    void copyOfFewerThanNone() {
        fill(0, 1, 2);
        refused("copy(0, 1, 0, 1, -1)", x.copy(0, 1, 0, 1, -1), SIZE);
        refused("copy(0, 0, 0, 0, MIN)", x.copy(0, 0, 0, 0, MIN), SIZE);
        refused("copy(1, 0, 0, 0, -1), ahead of NOTHING", x.copy(1, 0, 0, 0, -1), SIZE);
        refused("copy(0, 9, 0, 0, -1), ahead of BEYOND", x.copy(0, 9, 0, 0, -1), SIZE);
    }

    @Says(of = 6, it = "NOTHING: either")
    void copyOfAMissingRow() {
        fill(0, 1, 2);
        refused("copy(1, 0, 0, 0, 1)", x.copy(1, 0, 0, 0, 1), NOTHING);
        refused("copy(0, 0, 1, 0, 1)", x.copy(0, 0, 1, 0, 1), NOTHING);
        refused("copy(0, 0, 1, 0, 0), of none", x.copy(0, 0, 1, 0, 0), NOTHING);
        refused("copy(1, 0, 0, 0, 0), of none", x.copy(1, 0, 0, 0, 0), NOTHING);
        refused("copy(0, 0, 1, 9, 9), ahead of BEYOND", x.copy(0, 0, 1, 9, 9), NOTHING);
    }

    @Says(of = 6, it = "BEYOND: not so many there")
    void copyOfTooMany() {
        fill(0, 1, 2, 3);
        fill(1, 7, 8);
        refused("copy(0, 2, 1, 0, 2)", x.copy(0, 2, 1, 0, 2), BEYOND);
        refused("copy(0, 0, 1, 1, 2)", x.copy(0, 0, 1, 1, 2), BEYOND);
        refused("copy(1, 0, 0, 0, 3)", x.copy(1, 0, 0, 0, 3), BEYOND);
        refused("copy(0, 3, 1, 0, 1)", x.copy(0, 3, 1, 0, 1), BEYOND);
        refused("copy(0, -1, 1, 0, 1)", x.copy(0, -1, 1, 0, 1), BEYOND);
        refused("copy(0, 0, 1, -1, 1)", x.copy(0, 0, 1, -1, 1), BEYOND);
        refused("copy(0, MIN, 1, 0, 1)", x.copy(0, MIN, 1, 0, 1), BEYOND);
        rowIs(0, 1, 2, 3);
        rowIs(1, 7, 8);
    }

    @Says(of = 6, it = "BEYOND: not so many there")
    void copyWrapsNotAround() {
        fill(0, 1, 2, 3);
        fill(1, 7, 8);
        refused("copy(0, 1, 1, 0, MAX)", x.copy(0, 1, 1, 0, MAX), BEYOND);
        refused("copy(0, MAX, 1, 0, 1)", x.copy(0, MAX, 1, 0, 1), BEYOND);
        refused("copy(0, 0, 1, MAX, 1)", x.copy(0, 0, 1, MAX, 1), BEYOND);
        refused("copy(0, MAX, 1, MAX, MAX)", x.copy(0, MAX, 1, MAX, MAX), BEYOND);
        refused("copy(0, 0, 0, 0, MAX)", x.copy(0, 0, 0, 0, MAX), BEYOND);
        rowIs(1, 7, 8);
    }

    // ---- mean

    @Says(of = 7, it = "The mean of a ROW's ints, cut, told by asked(): 1.")
    void meanIsCut() {
        fill(0, 1, 2, 5);
        tells("mean(0), 8 by 3", x.mean(0), 1, 2);
        fill(0, -1, -2, -5);
        tells("mean(0), -8 by 3", x.mean(0), 1, -2);
        fill(0, 1, -2);
        tells("mean(0), -1 by 2", x.mean(0), 1, 0);
        fill(5, -7);
        tells("mean(5) of one", x.mean(5), 1, -7);
    }

    @Says(of = 7, it = "The mean of a ROW's ints, cut, told by asked(): 1.")
    void meanOfGreatOnesWrapsNotAround() {
        x.row(0, 40);
        x.row(1, 40);
        for (int i = 0; i < 40; i++) {
            x.lay(0, i, MAX);
            x.lay(1, i, MIN);
        }
        tells("mean(0)", x.mean(0), 1, MAX);
        tells("mean(1)", x.mean(1), 1, MIN);
        fill(2, MAX, MIN);
        tells("mean(2)", x.mean(2), 1, 0);
    }

    @Says(of = 7, it = "BAD")
    void meanOfNoRow() {
        for (int none : NO_ROW) {
            is("mean(" + none + ")", x.mean(none), BAD);
        }
    }

    @Says(of = 7, it = "NOTHING")
    void meanOfAMissingRow() {
        refused("mean(5)", x.mean(5), NOTHING);
    }

    @Says(of = 7, it = "NOUGHT")
    void meanOfNone() {
        x.row(5, 0);
        refused("mean(5)", x.mean(5), NOUGHT);
        is("asked()", x.asked(), 0);
        x.row(5, 1);
        is("mean(5) of one", x.mean(5), 1);
    }
}
