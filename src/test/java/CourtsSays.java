/** Promises 8 to 13, sentence by sentence: TEXTS, COURTS, THINGS, CLAUSES. */
final class CourtsSays extends Sentences {
    private static final String ALL = "t21003t03012t12215t00334t30001 n0 u1 c2 b23 h0 x31";

    // ---- text

    @Says(of = 8, it = "A TEXT is there with n blanks: n.")
    void textIsThereWithBlanks() {
        is("text(0, 3)", x.text(0, 3), 3);
        is("text(3, 0)", x.text(3, 0), 0);
        is("count(7)", x.count(7), 2);
        for (int i = 0; i < 3; i++) {
            is("byte " + i, x.put(0, i, 65), 1032);
        }
        is("text(0, 2) anew", x.text(0, 2), 2);
        is("byte 0", x.put(0, 0, 65), 1032);
        is("text(0, 4) anew", x.text(0, 4), 4);
        for (int i = 0; i < 4; i++) {
            is("byte " + i, x.put(0, i, 65), 1032);
        }
    }

    @Says(of = 8, it = "BAD")
    void textIsNone() {
        for (int none : NO_TEXT) {
            is("text(" + none + ", 1)", x.text(none, 1), BAD);
        }
        is("count(7)", x.count(7), 0);
    }

    @Says(of = 8, it = "BAD: also n above 80")
    void textAboveEighty() {
        is("text(0, 81)", x.text(0, 81), BAD);
        is("text(0, MAX)", x.text(0, MAX), BAD);
        is("count(7)", x.count(7), 0);
        is("text(0, 80)", x.text(0, 80), 80);
    }

    @Says(of = 8, it = "SIZE: below 0")
    void textBelowNone() {
        refused("text(0, -1)", x.text(0, -1), SIZE);
        refused("text(3, MIN)", x.text(3, MIN), SIZE);
        is("count(7)", x.count(7), 0);
        write(0, "A");
        refused("text(0, -1)", x.text(0, -1), SIZE);
        is("its byte", x.put(0, 0, 0), 1065);
    }

    // ---- put

    @Says(of = 9, it = "Byte i of a TEXT is v, cut to a byte: what it was, and 1000 more.")
    void putCutsToAByte() {
        x.text(1, 80);
        int[] put = {0, 127, 128, 255, 256, -1, -128, -129, 1 << 8, (1 << 8) + 65, MIN, MAX};
        int[] then = {0, 127, -128, -1, 0, -1, -128, 127, 0, 65, 0, -1};
        int was = 32;
        for (int i = 0; i < put.length; i++) {
            is("put(1, 79, " + put[i] + ")", x.put(1, 79, put[i]), 1000 + was);
            was = then[i];
        }
        is("the byte beside", x.put(1, 78, 0), 1032);
        is("the first byte", x.put(1, 0, 0), 1032);
    }

    @Says(of = 9, it = "BAD")
    void putInNoText() {
        for (int none : NO_TEXT) {
            is("put(" + none + ", 0, 0)", x.put(none, 0, 0), BAD);
        }
    }

    @Says(of = 9, it = "NOTHING")
    void putInAMissingText() {
        for (int t = 0; t <= 3; t++) {
            refused("put(" + t + ", 0, 0)", x.put(t, 0, 0), NOTHING);
            refused("put(" + t + ", -1, 0), ahead of BEYOND", x.put(t, -1, 0), NOTHING);
        }
    }

    @Says(of = 9, it = "BEYOND")
    void putBeyond() {
        x.text(0, 3);
        x.text(1, 0);
        x.text(2, 80);
        for (int none : new int[] {3, -1, MIN, MAX}) {
            refused("put(0, " + none + ", 0)", x.put(0, none, 0), BEYOND);
        }
        refused("put(1, 0, 0), none in it", x.put(1, 0, 0), BEYOND);
        refused("put(2, 80, 0)", x.put(2, 80, 0), BEYOND);
    }

    // ---- fault

    @Says(of = 10, it = "A FAULT of a TEXT")
    void faultTellsThePlace() {
        faultIs("t00000 c0 t00000", 10);
        faultIs("?", 0);
        faultIs("t0000", 5);
        court(ALL);
        write(1, "t00000 c0 ?");
        long digest = x.digest();
        is("fault(1)", x.fault(1), 10);
        is("the COURT stays as it is", x.digest(), digest);
        is("good()", x.good(), 0);
    }

    @Says(of = 10, it = "A FAULT of a TEXT")
    void faultOfOneTextBehindAnother() {
        String[] ahead = {"t", "t00", "t0000", "t00000b", "t00000b0", "t00000c0c", "t00000c0t", "c", ""};
        for (String signs : ahead) {
            x = new NeitherBare();
            write(0, signs);
            write(1, "t00000 b01");
            write(2, "c0");
            is("fault(0) of '" + signs + "' there is", x.fault(0) == NONE ? 1 : 0, 0);
            is("fault(1)", x.fault(1), NONE);
            x.fault(0);
            is("fault(2)", x.fault(2), 0);
            x.fault(0);
            is("court(1)", x.court(1), 1);
            is("count(1)", x.count(1), 1);
        }
    }

    @Says(of = 10, it = "NONE: there is none.")
    void faultIsNone() {
        faultIs(ALL, NONE);
        faultIs("t00000", NONE);
        faultIs(GREATEST, NONE);
        write(1, "t00000 c0");
        is("fault(1)", x.fault(1), NONE);
        is("there is no COURT by that", x.count(0), 0);
    }

    @Says(of = 10, it = "BAD")
    void faultOfNoText() {
        for (int none : NO_TEXT) {
            is("fault(" + none + ")", x.fault(none), BAD);
        }
    }

    @Says(of = 10, it = "NOTHING")
    void faultOfAMissingText() {
        for (int t = 0; t <= 3; t++) {
            refused("fault(" + t + ")", x.fault(t), NOTHING);
        }
    }

    // ---- court

    private void courtWithDeeds() {
        court(ALL);
        x.strike(0, 1);
        x.move(2, 1, 5);
        x.move(3, 0, 0);
        x.keep(0);
        x.keep(1);
        x.keep(2);
        write(1, "t12331 t00000 c0 b12");
    }

    @Says(of = 11, it = "A COURT by a TEXT")
    void courtByAText() {
        courtWithDeeds();
        is("court(1)", x.court(1), 2);
        is("count(0)", x.count(0), 2);
        is("count(1)", x.count(1), 2);
        is("value(1, 3)", x.value(1, 3), 3);
        is("value(4, 3)", x.value(4, 3), BAD);
        tells("clause(1, 2)", x.clause(1, 2), 1, 2);
        write(1, "????");
        is("count(0), whatever the TEXT is later", x.count(0), 2);
        x.text(1, 0);
        is("clause(1, 2)", x.clause(1, 2), 1);
    }

    @Says(of = 11, it = "A COURT by a TEXT")
    void aSmallCourtBehindAGreatOne() {
        court(GREATEST);
        x.good();
        write(1, "t00000 b01");
        x.court(1);
        x.good();
        write(1, "t30001t10002 u0");
        x.court(1);
        is("value(1, 0)", x.value(1, 0), 3);
        is("value(3, 0)", x.value(3, 0), 4);
        is("cost(3)", x.cost(3), 3);
        tells("good()", x.good(), 3, 0);
        tells("nearest()", x.nearest(), 0, 1);
        is("clash(1)", x.clash(1), 0);
        is("clash(2)", x.clash(2), BAD);
        is("count(2)", x.count(2), 1);
        is("count(5)", x.count(5), 0);
        is("mark(0, 3)", x.mark(0, UNDONE), 0);
        is("holds(0)", x.holds(0), 1);
        tells("relent()", x.relent(), 0, 0);
        is("names(3)", x.names(3), NONE);
    }

    @Says(of = 11, it = "(anew: all ON")
    void courtAnewAllOn() {
        courtWithDeeds();
        x.court(1);
        is("count(2)", x.count(2), 2);
        tells("clause(0, 3)", x.clause(0, 3), 1, 1);
        x.strike(0, 1);
        x.court(1);
        tells("clause(0, 3), by the same TEXT", x.clause(0, 3), 1, 1);
    }

    @Says(of = 11, it = ", BORDERS 1 and 4")
    void courtAnewBorders() {
        courtWithDeeds();
        x.court(1);
        for (int trait = 0; trait <= 3; trait++) {
            is("border(" + trait + ", 0)", x.border(trait, 0), 1);
            is("border(" + trait + ", 1)", x.border(trait, 1), 4);
        }
    }

    @Says(of = 11, it = ", no DEEDS")
    void courtAnewNoDeeds() {
        courtWithDeeds();
        x.court(1);
        is("count(3)", x.count(3), 0);
        is("undo(0)", x.undo(0), 0);
        is("undo(1)", x.undo(1), BAD);
    }

    @Says(of = 11, it = "; kept COURTS go)")
    void keptCourtsGo() {
        courtWithDeeds();
        is("count(8)", x.count(8), 3);
        x.court(1);
        is("count(8)", x.count(8), 0);
        for (int k = 0; k <= 2; k++) {
            refused("on(" + k + ")", x.on(k), NOTHING);
        }
    }

    @Says(of = 11, it = ": how many THINGS.")
    void courtTellsHowManyThings() {
        for (int many = 1; many <= 6; many++) {
            write(0, "t00000".repeat(many));
            is("court(0)", x.court(0), many);
        }
    }

    @Says(of = 11, it = "BAD")
    void courtByNoText() {
        for (int none : NO_TEXT) {
            is("court(" + none + ")", x.court(none), BAD);
        }
    }

    @Says(of = 11, it = "NOTHING")
    void courtByAMissingText() {
        for (int t = 0; t <= 3; t++) {
            refused("court(" + t + ")", x.court(t), NOTHING);
        }
    }

    @Says(of = 11, it = "STATE: a FAULT.")
    void courtByAFault() {
        courtWithDeeds();
        String[] faults = {"", "   ", "t0000", "t00000 c0 t00000", "t12331 t00000 c4"};
        for (String signs : faults) {
            write(1, signs);
            long digest = x.digest();
            is("court(1) by '" + signs + "'", x.court(1), STATE);
            is("all stays as it is", x.digest(), digest);
            is("value(31, 2) as it was", x.value(31, 2), 5);
        }
        is("finding()", x.finding(), 0);
        is("on(2) as it was kept", x.on(2), 3);
    }

    @Says(of = 11, it = "(STATE behind NOTHING.)")
    void courtStateBehindNothing() {
        refused("court(0), missing", x.court(0), NOTHING);
        x.text(0, 0);
        is("court(0), none in it", x.court(0), STATE);
        is("finding() as it was", x.finding(), NOTHING);
        is("findings(1)", x.findings(NOTHING), 1);
    }

    // ---- thing

    @Says(of = 12, it = "Of a THING: 0 .. 3 what it gives to that TRAIT")
    void thingTellsItsGifts() {
        court("t01239t32100");
        for (int trait = 0; trait <= 3; trait++) {
            tells("thing(0, " + trait + ")", x.thing(0, trait), 1, trait);
            tells("thing(1, " + trait + ")", x.thing(1, trait), 1, 3 - trait);
        }
    }

    @Says(of = 12, it = ", 4 its COST, told by asked(): 1.")
    void thingTellsItsCost() {
        court("t33330t33339");
        tells("thing(0, 4)", x.thing(0, 4), 1, 0);
        tells("thing(1, 4)", x.thing(1, 4), 1, 9);
    }

    @Says(of = 12, it = "BAD.")
    void thingIsNone() {
        is("thing(0, 0) without THINGS", x.thing(0, 0), BAD);
        court("t00000".repeat(6));
        for (int none : new int[] {-1, 6, MIN, MAX}) {
            is("thing(" + none + ", 0)", x.thing(none, 0), BAD);
        }
        for (int none : new int[] {-1, 5, MIN, MAX}) {
            is("thing(0, " + none + ")", x.thing(0, none), BAD);
        }
        is("thing(5, 4)", x.thing(5, 4), 1);
        court("t00000");
        is("thing(1, 0) of one", x.thing(1, 0), BAD);
    }

    // ---- clause

    @Says(of = 13, it = "Of a CLAUSE: 0 the KIND")
    void clauseTellsItsKind() {
        court("t00000 c0 n0 b01 u0 h0 x01");
        for (int k = 0; k <= 5; k++) {
            tells("clause(" + k + ", 0)", x.clause(k, 0), 1, k);
        }
    }

    @Says(of = 13, it = ", 1 the TRAIT")
    void clauseTellsItsTrait() {
        court("t00000 c3 n2 b10 u0 h3 x23");
        int[] want = {3, 2, 1, 0, 3, 2};
        for (int k = 0; k <= 5; k++) {
            tells("clause(" + k + ", 1)", x.clause(k, 1), 1, want[k]);
        }
    }

    @Says(of = 13, it = ", 2 the other TRAIT (NONE: it has none)")
    void clauseTellsItsOtherTrait() {
        court("t00000 c3 n2 b10 u0 h3 x23");
        int[] want = {NONE, NONE, 0, NONE, NONE, 3};
        for (int k = 0; k <= 5; k++) {
            tells("clause(" + k + ", 2)", x.clause(k, 2), 1, want[k]);
        }
        write(0, "t00000 x23 b10 c1");
        x.court(0);
        write(0, "t00000 c3 u1 b02");
        x.court(0);
        write(0, "t00000 c3 u1 b02");
        x.court(0);
        tells("clause(0, 2), a BUT before", x.clause(0, 2), 1, NONE);
        tells("clause(1, 2), a BOTH before", x.clause(1, 2), 1, NONE);
    }

    @Says(of = 13, it = ", 3 whether it is ON (1, 0)")
    void clauseTellsWhetherItIsOn() {
        court("t00000 c0 c0 c0 c0 c0 c0 c0 c0");
        for (int k = 0; k <= 7; k++) {
            tells("clause(" + k + ", 3)", x.clause(k, 3), 1, 1);
            x.strike(k, 1);
            tells("clause(" + k + ", 3), STRUCK", x.clause(k, 3), 1, 0);
        }
        x.strike(7, 0);
        tells("clause(7, 3), ON again", x.clause(7, 3), 1, 1);
        tells("clause(6, 3)", x.clause(6, 3), 1, 0);
    }

    @Says(of = 13, it = ", 4 of how many WAYS it HOLDS, told by asked(): 1.")
    void clauseTellsOfHowManyWaysItHolds() {
        court(LADDER + " c0 n0 b01 u0 h0 x01");
        int[] want = {3, 3, 0, 5, 1, 3};
        for (int k = 0; k <= 5; k++) {
            tells("clause(" + k + ", 4)", x.clause(k, 4), 1, want[k]);
        }
        x.strike(0, 1);
        tells("clause(0, 4), STRUCK", x.clause(0, 4), 1, 3);
        x.move(0, 1, 5);
        tells("clause(0, 4), moved", x.clause(0, 4), 1, 2);
        court("t00000t00000t00000t00000t00000t00000 u0");
        tells("clause(0, 4), of all", x.clause(0, 4), 1, 64);
    }

    @Says(of = 13, it = "BAD.")
    void clauseIsNone() {
        is("clause(0, 0) without CLAUSES", x.clause(0, 0), BAD);
        court(GREATEST);
        for (int none : new int[] {-1, 8, MIN, MAX}) {
            is("clause(" + none + ", 0)", x.clause(none, 0), BAD);
        }
        for (int none : new int[] {-1, 5, MIN, MAX}) {
            is("clause(0, " + none + ")", x.clause(0, none), BAD);
        }
        is("clause(7, 4)", x.clause(7, 4), 1);
        court("t00000 c0");
        is("clause(1, 0) of one", x.clause(1, 0), BAD);
    }
}
