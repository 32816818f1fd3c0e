/** The words ahead of the promises: the language of COURTS, FAULTS, KINDS, BORDERS, what HOLDS, DEEDS. */
final class CourtTermsSays extends Sentences {
    private static final String SIX = "t00000t00000t00000t00000t00000t00000";
    private static final String EIGHT = "t00000c0c0c0c0c0c0c0c0";

    // ---- the language

    @Says(of = 0, it = "A COURT (without THINGS, CLAUSES at first) is a TEXT")
    void atFirstWithoutThingsAndClauses() {
        is("count(0)", x.count(0), 0);
        is("count(1)", x.count(1), 0);
        is("thing(0, 0)", x.thing(0, 0), BAD);
        is("clause(0, 0)", x.clause(0, 0), BAD);
    }

    @Says(of = 0, it = ": blanks (32) ahead, between, behind as many as wanted")
    void blanksAheadBetweenBehind() {
        faultIs("t00000c0", NONE);
        faultIs("     t00000c0", NONE);
        faultIs("t00000     c0", NONE);
        faultIs("t00000     t00000c0    c1", NONE);
        faultIs("t00000c0     ", NONE);
        faultIs("t00000     ", NONE);
        faultIs(" ".repeat(72) + "t00000c0", NONE);
        faultIs("t00000c0" + " ".repeat(72), NONE);
        faultIs("t00000" + " ".repeat(72) + "c0", NONE);
        for (int other : new int[] {0, 9, 10, 31, 33, 160, 224}) {
            faultIs("t00000" + (char) other + "c0", 6);
        }
    }

    @Says(of = 0, it = ", none within items.")
    void noBlanksWithinItems() {
        faultIs("t 00000", 1);
        faultIs("t0 0000", 2);
        faultIs("t0000 0", 5);
        faultIs("t00000c 0", 7);
        faultIs("t00000b 01", 7);
        faultIs("t00000b0 1", 8);
        faultIs("t00000x0 1", 8);
    }

    @Says(of = 0, it = "First THINGS (1 to 6")
    void oneToSixThings() {
        for (int many = 1; many <= 6; many++) {
            write(0, SIX.substring(0, 6 * many));
            is("court(0) of " + many, x.court(0), many);
        }
        faultIs("", 0);
        faultIs(SIX + "t00000", 36);
    }

    @Says(of = 0, it = "; 0, 1, .. as they come)")
    void thingsAreNumberedAsTheyCome() {
        court("t00006 t00005t00004 t00003t00002t00001");
        for (int i = 0; i < 6; i++) {
            tells("thing(" + i + ", 4)", x.thing(i, 4), 1, 6 - i);
            is("cost of THING " + i, x.cost(1 << i), 6 - i);
        }
    }

    @Says(of = 0, it = ": t (116)")
    void theLetterOfAThing() {
        x.text(0, 6);
        for (int i = 0; i < 6; i++) {
            x.put(0, i, 48);
        }
        x.put(0, 0, 116);
        is("fault(0)", x.fault(0), NONE);
        for (int other : new int[] {115, 84, 116 - 128, 0}) {
            x.put(0, 0, other);
            is("fault(0) with " + other, x.fault(0), 0);
        }
        x.put(0, 0, 116 + 256);
        is("fault(0), cut to a byte", x.fault(0), NONE);
    }

    @Says(of = 0, it = "what it gives to TRAITS 0, 1, 2, 3 (0 .. 3, one figure each)")
    void figuresOfGifts() {
        court("t01239t32100");
        for (int trait = 0; trait <= 3; trait++) {
            tells("thing(0, " + trait + ")", x.thing(0, trait), 1, trait);
            tells("thing(1, " + trait + ")", x.thing(1, trait), 1, 3 - trait);
        }
        for (int f = 1; f <= 4; f++) {
            faultIs("t00000".substring(0, f) + "4" + "00000".substring(f), f);
            faultIs("t00000".substring(0, f) + "/" + "00000".substring(f), f);
            faultIs("t00000".substring(0, f) + "3" + "00000".substring(f), NONE);
        }
    }

    @Says(of = 0, it = "its COST (0 .. 9, one figure).")
    void figureOfCost() {
        for (int cost = 0; cost <= 9; cost++) {
            court("t0000" + cost);
            tells("thing(0, 4)", x.thing(0, 4), 1, cost);
        }
        faultIs("t0000/", 5);
        faultIs("t0000:", 5);
        faultIs("t000010", 6);
    }

    @Says(of = 0, it = "Then CLAUSES (8 at most)")
    void upToEightClauses() {
        for (int many = 0; many <= 8; many++) {
            court(EIGHT.substring(0, 6 + 2 * many));
            is("count(1)", x.count(1), many);
        }
        faultIs(EIGHT + "c0", 22);
    }

    @Says(of = 0, it = ": a letter, a TRAIT (0 .. 3, one figure)")
    void theTraitOfAClause() {
        for (char letter : "cnuh".toCharArray()) {
            for (int trait = 0; trait <= 3; trait++) {
                court("t00000" + letter + trait);
                tells("clause(0, 1)", x.clause(0, 1), 1, trait);
            }
            faultIs("t00000" + letter + "4", 7);
            faultIs("t00000" + letter + "/", 7);
            faultIs("t00000" + letter + "01", 8);
        }
        faultIs("t00000b40", 7);
        faultIs("t00000x40", 7);
    }

    @Says(of = 0, it = "; of a BOTH, a BUT another TRAIT, too (one figure; not the same).")
    void theOtherTraitOfAClause() {
        for (char letter : "bx".toCharArray()) {
            for (int trait = 0; trait <= 3; trait++) {
                court("t00000" + letter + trait + (3 - trait));
                tells("clause(0, 1)", x.clause(0, 1), 1, trait);
                tells("clause(0, 2)", x.clause(0, 2), 1, 3 - trait);
                faultIs("t00000" + letter + trait + trait, 8);
            }
            faultIs("t00000" + letter + "04", 8);
            faultIs("t00000" + letter + "0/", 8);
            faultIs("t00000" + letter + "012", 9);
        }
    }

    // ---- FAULTS

    @Says(of = 0, it = "A FAULT is the first place at which it can't go on so")
    void theFirstPlace() {
        faultIs("t00000 ? c9 t0", 7);
        faultIs("t00000 c9 ?", 8);
        faultIs("?t00000", 0);
        faultIs("t00000c0" + "c1".repeat(7) + " ".repeat(57) + "?", 79);
    }

    @Says(of = 0, it = "(a letter, a figure that is none such")
    void aLetterThatIsNone() {
        faultIs("a", 0);
        faultIs("5", 0);
        faultIs("t00000 T", 7);
        faultIs("t00000 C0", 7);
        faultIs("t00000 d0", 7);
        faultIs("t00000 5", 7);
    }

    @Says(of = 0, it = "(a letter, a figure that is none such")
    void aFigureThatIsNone() {
        faultIs("tt0000", 1);
        faultIs("t0000c", 5);
        faultIs("t00000 cc", 8);
        faultIs("t00000 b0c", 9);
    }

    @Says(of = 0, it = ", the same TRAIT")
    void theSameTrait() {
        faultIs("t00000 b22", 9);
        faultIs("t00000 x22", 9);
        faultIs("t00000 b21 b11", 13);
        faultIs("t00000 c2 b21 b12", NONE);
    }

    @Says(of = 0, it = ", a seventh THING")
    void aSeventhThing() {
        faultIs(SIX, NONE);
        faultIs(SIX + "t", 36);
        faultIs(SIX + "   t00000", 39);
    }

    @Says(of = 0, it = ", a ninth CLAUSE")
    void aNinthClause() {
        faultIs(EIGHT, NONE);
        faultIs(EIGHT + "c", 22);
        faultIs(EIGHT + "  b01", 24);
    }

    @Says(of = 0, it = ", a THING behind a CLAUSE")
    void aThingBehindAClause() {
        faultIs("t00000c0t00000", 8);
        faultIs("t00000 c0 t", 10);
    }

    @Says(of = 0, it = ", a CLAUSE ahead of all THINGS: its place")
    void aClauseAheadOfAllThings() {
        faultIs("c0t00000", 0);
        faultIs("   b01t00000", 3);
    }

    @Says(of = 0, it = "; the TEXT's size, if its end comes too early")
    void theEndComesTooEarly() {
        String whole = "t00000c0b01";
        for (int size : new int[] {1, 2, 3, 4, 5, 7, 9, 10}) {
            faultIs(whole.substring(0, size), size);
        }
        for (int size : new int[] {6, 8, 11}) {
            faultIs(whole.substring(0, size), NONE);
        }
        faultIs(" ".repeat(74) + "t00000".substring(0, 5), 79);
        faultIs(" ".repeat(75) + "t00000".substring(0, 5), 80);
    }

    @Says(of = 0, it = ", or there are blanks alone).")
    void blanksAlone() {
        faultIs("", 0);
        faultIs(" ", 1);
        faultIs(" ".repeat(80), 80);
    }

    // ---- KINDS

    private void kindIs(int letter, int kind, int... isOf) {
        x.text(0, 9);
        int[] signs = {116, 48, 48, 48, 48, 48, letter, 48, kind == BOTH || kind == BUT ? 49 : 32};
        for (int i = 0; i < signs.length; i++) {
            x.put(0, i, signs[i]);
        }
        is("court(0)", x.court(0), 1);
        tells("clause(0, 0)", x.clause(0, 0), 1, kind);
        for (int k = NEITHER; k <= BUT; k++) {
            boolean expected = false;
            for (int one : isOf) {
                expected |= one == k;
            }
            is("mark(0, " + k + ") answers", x.mark(0, k) != FINDING ? 1 : 0, expected ? 1 : 0);
        }
    }

    @Says(of = 0, it = "KINDS of CLAUSES and letters: 0 CLAUSE (c, 99)")
    void kindClause() {
        kindIs(99, 0);
    }

    @Says(of = 0, it = "1 NEITHER (n, 110; a CLAUSE)")
    void kindNeither() {
        kindIs(110, 1, NEITHER);
    }

    @Says(of = 0, it = "2 BOTH (b, 98; a CLAUSE)")
    void kindBoth() {
        kindIs(98, 2, BOTH);
    }

    @Says(of = 0, it = "3 UNDONE (u, 117; a CLAUSE)")
    void kindUndone() {
        kindIs(117, 3, UNDONE);
    }

    @Says(of = 0, it = "4 HALF (h, 104; a NEITHER)")
    void kindHalf() {
        kindIs(104, 4, HALF, NEITHER);
    }

    @Says(of = 0, it = "5 BUT (x, 120; a BOTH).")
    void kindBut() {
        kindIs(120, 5, BUT, BOTH);
    }

    // ---- WAYS, BORDERS

    @Says(of = 0, it = "A WAY is a set of THINGS.")
    void aWayIsASetOfThings() {
        court("t00001t00002t00004t00008");
        for (int way = 0; way < 16; way++) {
            is("cost(" + way + ")", x.cost(way), way);
        }
        is("cost(16)", x.cost(16), BAD);
    }

    @Says(of = 0, it = "The VALUE of a TRAIT of a WAY is what its THINGS give to it together")
    void theValueTogether() {
        court("t10200t21000t10010");
        int[] want = {4, 1, 2, 1};
        for (int trait = 0; trait <= 3; trait++) {
            is("value(7, " + trait + ")", x.value(7, trait), want[trait]);
        }
        is("value(5, 0)", x.value(5, 0), 2);
    }

    @Says(of = 0, it = ", 5 at most.")
    void theValueIsFiveAtMost() {
        court("t30001t20001t10001t30001t30001t30001");
        is("value(3, 0), 5", x.value(3, 0), 5);
        is("value(7, 0), 6", x.value(7, 0), 5);
        is("value(63, 0), 15", x.value(63, 0), 5);
        is("cost(63) is not cut", x.cost(63), 6);
    }

    @Says(of = 0, it = "Each TRAIT has two BORDERS: it is LITTLE, if the VALUE is no more than the lower one (1 at first)")
    void littleByTheLowerBorder() {
        court(LADDER + "t03000t03000 x10 ");
        int[] want = {1, 1, 0, 0, 0, 0};
        for (int v = 0; v <= 5; v++) {
            is("TRAIT 0 at " + v + " is LITTLE", x.holds(24 + WAY_OF[v]), want[v]);
        }
        bordersTo(0, 3, 4);
        is("at 3 by 3", x.holds(24 + WAY_OF[3]), 1);
        is("at 4 by 3", x.holds(24 + WAY_OF[4]), 0);
    }

    @Says(of = 0, it = ", MUCH, if it is no less than the upper one (4 at first)")
    void muchByTheUpperBorder() {
        court(LADDER + " c0");
        holdsAt(0, 0, 0, 0, 1, 1);
        bordersTo(0, 1, 2);
        holdsAt(0, 0, 1, 1, 1, 1);
        bordersTo(0, 1, 5);
        holdsAt(0, 0, 0, 0, 0, 1);
    }

    @Says(of = 0, it = "; the lower one is always below the upper one (0 .. 4, 1 .. 5).")
    void theLowerOneIsAlwaysBelow() {
        for (int trait = 0; trait <= 3; trait++) {
            x = new NeitherBare();
            for (int lower = 0; lower <= 4; lower++) {
                for (int upper = 1; upper <= 5; upper++) {
                    x.undo(0);
                    x.move(trait, 1, 5);
                    x.move(trait, 0, lower);
                    int answer = x.move(trait, 1, upper);
                    int want = upper <= lower || upper == 5 ? STATE : 5;
                    is("borders " + lower + ", " + upper, answer, want);
                    is("still below", x.border(trait, 0) < x.border(trait, 1) ? 1 : 0, 1);
                }
            }
        }
    }

    // ---- what HOLDS

    @Says(of = 0, it = "A CLAUSE of a TRAIT HOLDS of a WAY: a CLAUSE, if the TRAIT is MUCH;")
    void aClauseHolds() {
        court(LADDER + " c0");
        holdsAt(0, 0, 0, 0, 1, 1);
        bordersTo(0, 0, 1);
        holdsAt(0, 1, 1, 1, 1, 1);
    }

    @Says(of = 0, it = "a NEITHER one, if it is neither MUCH nor LITTLE;")
    void aNeitherHolds() {
        court(LADDER + " n0");
        holdsAt(0, 0, 1, 1, 0, 0);
        bordersTo(0, 0, 5);
        holdsAt(0, 1, 1, 1, 1, 0);
        bordersTo(0, 2, 3);
        holdsAt(0, 0, 0, 0, 0, 0);
    }

    @Says(of = 0, it = "a BOTH one, if both TRAITS are MUCH;")
    void aBothHolds() {
        court(LADDER + "t03000t03000 b01");
        int[] much = {0, 0, 0, 0, 1, 1};
        for (int v = 0; v <= 5; v++) {
            is("TRAIT 0 at " + v + ", TRAIT 1 MUCH", x.holds(24 + WAY_OF[v]), much[v]);
            is("TRAIT 0 at " + v + ", TRAIT 1 at 3", x.holds(8 + WAY_OF[v]), 0);
        }
        x.move(1, 1, 3);
        is("TRAIT 1 is MUCH at 3", x.holds(8 + WAY_OF[4]), 1);
        is("TRAIT 0 is not at 3", x.holds(8 + WAY_OF[3]), 0);
    }

    @Says(of = 0, it = "an UNDONE one, if the TRAIT is not MUCH;")
    void anUndoneHolds() {
        court(LADDER + " u0");
        holdsAt(1, 1, 1, 1, 0, 0);
        bordersTo(0, 0, 1);
        holdsAt(1, 0, 0, 0, 0, 0);
    }

    @Says(of = 0, it = "a HALF one, if the VALUE is half of both BORDERS together (cut)")
    void aHalfHolds() {
        court(LADDER + " h0");
        holdsAt(0, 0, 1, 0, 0, 0);
        bordersTo(0, 0, 3);
        holdsAt(0, 1, 0, 0, 0, 0);
        bordersTo(0, 0, 2);
        holdsAt(0, 1, 0, 0, 0, 0);
        bordersTo(0, 2, 5);
        holdsAt(0, 0, 0, 1, 0, 0);
        bordersTo(0, 3, 5);
        holdsAt(0, 0, 0, 0, 1, 0);
    }

    @Says(of = 0, it = ", and neither MUCH nor LITTLE;")
    void aHalfHoldsNotIfLittle() {
        court(LADDER + " h0");
        for (int lower = 0; lower <= 4; lower++) {
            bordersTo(0, lower, lower + 1);
            holdsAt(0, 0, 0, 0, 0, 0);
        }
    }

    @Says(of = 0, it = "a BUT one, if its first TRAIT is MUCH, the other one LITTLE.")
    void aButHolds() {
        court(LADDER + "t01000t01000 x01");
        int[] much = {0, 0, 0, 0, 1, 1};
        for (int v = 0; v <= 5; v++) {
            is("TRAIT 0 at " + v + ", TRAIT 1 at 0", x.holds(WAY_OF[v]), much[v]);
            is("TRAIT 0 at " + v + ", TRAIT 1 at 1", x.holds(8 + WAY_OF[v]), much[v]);
            is("TRAIT 0 at " + v + ", TRAIT 1 at 2", x.holds(24 + WAY_OF[v]), 0);
        }
        x.move(1, 0, 0);
        is("TRAIT 1 is not LITTLE at 1", x.holds(8 + WAY_OF[5]), 0);
        x.move(1, 0, 2);
        is("TRAIT 1 is LITTLE at 2", x.holds(24 + WAY_OF[5]), 1);
    }

    // ---- ON, GOOD, DEEDS, CLASH

    @Says(of = 0, it = "CLAUSES are ON (at first), or STRUCK.")
    void clausesAreOnAtFirst() {
        court(GREATEST);
        is("count(2)", x.count(2), 8);
        for (int k = 0; k < 8; k++) {
            tells("clause(" + k + ", 3)", x.clause(k, 3), 1, 1);
            x.strike(k, 1);
            tells("clause(" + k + ", 3), STRUCK", x.clause(k, 3), 1, 0);
        }
    }

    @Says(of = 0, it = "A WAY is GOOD, if each CLAUSE that is ON HOLDS of it")
    void aWayIsGood() {
        court(LADDER + " c0 u0 c1");
        tells("holds(6), one of three", x.holds(6), 1, 0);
        x.strike(2, 1);
        tells("holds(6), one of two", x.holds(6), 1, 0);
        x.strike(1, 1);
        tells("holds(6), one of one", x.holds(6), 1, 1);
        tells("holds(0), none of one", x.holds(0), 2, 0);
    }

    @Says(of = 0, it = "(without any each WAY).")
    void withoutAnyEachWayIsGood() {
        court("t00000t33339");
        tells("good() without CLAUSES", x.good(), 4, 0);
        court("t00000t33339 c0");
        x.strike(0, 1);
        tells("good(), all STRUCK", x.good(), 4, 0);
    }

    @Says(of = 0, it = "Its COST is that of its THINGS together.")
    void theCostTogether() {
        court(GREATEST);
        is("cost(63)", x.cost(63), 54);
        is("cost(32)", x.cost(32), 9);
        is("cost(0)", x.cost(0), 0);
    }

    @Says(of = 0, it = "What is done: a CLAUSE is STRUCK, or ON again; a BORDER is moved.")
    void whatIsDone() {
        court("t00000 c0");
        x.strike(0, 1);
        is("count(3), STRUCK", x.count(3), 1);
        x.strike(0, 0);
        is("count(3), ON again", x.count(3), 2);
        x.move(0, 0, 0);
        is("count(3), moved", x.count(3), 3);
        x.falls(0, 0, 2);
        x.worth(0);
        x.keep(0);
        is("count(3), nothing else", x.count(3), 3);
    }

    @Says(of = 0, it = "These are DEEDS 0, 1, .. (40 at most).")
    void fortyDeedsAtMost() {
        for (int i = 0; i < 40; i++) {
            is("DEED " + i, x.move(3, 0, i % 2 == 0 ? 0 : 1), i % 2 == 0 ? 1 : 0);
            is("count(3)", x.count(3), i + 1);
        }
        is("DEED 40", x.move(3, 0, 0), FULL);
        is("undo(39), DEED 39 alone", x.undo(39), 1);
        is("undo(0), DEED 0 and all behind", x.undo(0), 39);
    }

    @Says(of = 0, it = "CLAUSES CLASH (some of them, STRUCK ones, too, as told), if there is no WAY of which all of these HOLD.")
    void clausesClash() {
        court(LADDER + " c0 u0 n0");
        is("clash(1)", x.clash(1), 0);
        is("clash(2)", x.clash(2), 0);
        is("clash(3), MUCH and not MUCH", x.clash(3), 1);
        is("clash(6), at 2", x.clash(6), 0);
        is("clash(5)", x.clash(5), 1);
        x.strike(0, 1);
        x.strike(1, 1);
        is("clash(3), STRUCK ones, too", x.clash(3), 1);
    }
}
