/** The words ahead of the promises: what is refused, FINDINGS, chances, sets, ROWS, RULINGS, LOTS. */
final class TermsSays extends Sentences {

    @Says(of = 0, it = "An object is used for at most 512 calls after it has been made")
    void the512thCallIsAnsweredAsTheFirst() {
        for (int i = 0; i < 511; i++) {
            is("tear(0), call " + (i + 1), x.tear(0), FINDING);
        }
        is("findings(1), call 512", x.findings(NOTHING), 511);
    }

    // ---- what is refused

    @Says(of = 0, it = "Refused is, the first of these that fits, in this order: BAD")
    void badIsAheadOfState() {
        is("keep(3) without THINGS", x.keep(3), BAD);
        is("clash(1) without THINGS", x.clash(1), BAD);
        is("game(4) without THINGS", x.game(4), BAD);
        is("names(0) without THINGS", x.names(0), BAD);
        is("lots(0, 1) without THINGS", x.lots(0, 1), BAD);
        is("lots(1, 0) without THINGS", x.lots(1, 0), BAD);
        is("worth(0) without THINGS", x.worth(0), BAD);
        is("falls(0, 0, 5), not below the upper one, either", x.falls(0, 0, 5), BAD);
        is("move(0, 0, 5), not below the upper one, either", x.move(0, 0, 5), BAD);
    }

    @Says(of = 0, it = "Refused is, the first of these that fits, in this order: BAD")
    void badIsAheadOfFinding() {
        court("t00000 c0");
        is("row(6, -1)", x.row(6, -1), BAD);
        is("text(4, -1)", x.text(4, -1), BAD);
        is("copy(0, 0, 6, 0, -1)", x.copy(0, 0, 6, 0, -1), BAD);
        is("copy(6, 0, 0, 0, 1)", x.copy(6, 0, 0, 0, 1), BAD);
        is("follows(0, 4, 0)", x.follows(0, 4, 0), BAD);
        is("borders(0, 4)", x.borders(0, 4), BAD);
        is("judged(1, 0)", x.judged(1, 0), BAD);
        is("mark(0, 6)", x.mark(0, 6), BAD);
        is("finding()", x.finding(), 0);
    }

    @Says(of = 0, it = "BAD -1 (a number that is none, or not as told)")
    void badIsMinusOne() {
        is("BAD", NeitherBare.BAD, -1);
        is("tear(6), a number that is none", x.tear(6), -1);
        is("row(0, 41), not as told", x.row(0, 41), -1);
    }

    @Says(of = 0, it = "FULL -2")
    void fullIsMinusTwo() {
        is("FULL", NeitherBare.FULL, -2);
        for (int i = 0; i < 40; i++) {
            x.move(0, 1, 5 - i % 2);
        }
        is("move(0, 1, 5), the 41st", x.move(0, 1, 5), -2);
    }

    @Says(of = 0, it = "STATE -4 (not now)")
    void stateIsMinusFour() {
        is("STATE", NeitherBare.STATE, -4);
        is("good(), not now", x.good(), -4);
        write(0, "t00000");
        x.court(0);
        is("good(), then", x.good(), 2);
    }

    @Says(of = 0, it = "SPENT -6 (more than told)")
    void spentIsMinusSix() {
        is("SPENT", NeitherBare.SPENT, -6);
    }

    @Says(of = 0, it = "FINDING -3 (finding() tells which)")
    void findingIsMinusThree() {
        is("FINDING", NeitherBare.FINDING, -3);
        is("tear(0)", x.tear(0), -3);
        is("finding()", x.finding(), NOTHING);
        is("row(0, -1)", x.row(0, -1), -3);
        is("finding()", x.finding(), SIZE);
    }

    @Says(of = 0, it = "unless a call says so otherwise")
    void aCallSaysSoOtherwise() {
        court("t00000 c0");
        for (int i = 0; i < 40; i++) {
            x.strike(0, 1 - i % 2);
        }
        is("strike(0, 0): STATE ahead of FULL", x.strike(0, 0), STATE);
        is("move(0, 0, 1): STATE ahead of FULL", x.move(0, 0, 1), STATE);
        is("court(1): NOTHING ahead of STATE", x.court(1), FINDING);
    }

    @Says(of = 0, it = "NONE -9")
    void noneIsMinusNine() {
        is("NONE", NeitherBare.NONE, -9);
        court("t00000 c0");
        is("cheapest()", x.cheapest(), -9);
    }

    private void someOfAll() {
        court("t30121t20132 c0 n1 b02 x13 h2 u3");
        fill(0, 0, 3, 1, 0, 3, 0);
        fill(1, 4, 0, 0, 9);
        x.row(2, 0);
        write(1, "t00000 c0 t00000");
        x.strike(1, 1);
        x.move(2, 1, 5);
        x.keep(0);
        x.move(3, 0, 0);
        x.luck();
        x.odds(0, 9);
        x.thing(0, 4);
        x.thing(1, 4);
    }

    private int[] refusedCalls() {
        return new int[] {
            x.row(6, 1), x.row(0, 41), x.row(0, -1), x.lay(6, 0, 9), x.lay(3, 0, 9), x.lay(0, 6, 9), x.at(6, 0),
            x.at(3, 0), x.at(0, -1), x.tear(6), x.tear(3), x.copy(0, 0, 6, 0, 1), x.copy(0, 0, 1, 0, -1),
            x.copy(3, 0, 0, 0, 1), x.copy(0, 0, 1, 1, 4), x.mean(6), x.mean(3), x.mean(2), x.text(4, 1),
            x.text(0, 81), x.text(0, -1), x.put(4, 0, 9), x.put(3, 0, 9), x.put(0, 80, 9), x.fault(4), x.fault(3),
            x.court(4), x.court(3), x.court(1), x.thing(2, 0), x.thing(0, 5), x.clause(6, 0), x.clause(0, 5),
            x.mark(6, 1), x.mark(0, 0), x.mark(0, 1), x.border(4, 0), x.border(0, 2), x.strike(6, 1), x.strike(1, 1),
            x.move(0, 0, 5), x.move(0, 0, 4), x.move(0, 0, 1), x.undo(-1), x.undo(9), x.keep(3), x.on(3), x.on(1),
            x.value(4, 0), x.value(0, 4), x.cost(4), x.holds(4), x.tight(4), x.clash(64), x.game(4), x.names(0),
            x.contradict(6), x.contradict(3), x.contradict(1), x.fix(6), x.fix(3), x.fix(1), x.follows(0, 0, 6),
            x.follows(3, 0, 0), x.follows(1, 0, 0), x.borders(0, 4), x.borders(3, 0), x.borders(1, 0), x.worth(6),
            x.falls(0, 0, 5), x.falls(0, 0, 4), x.kinds(6, 0), x.kinds(0, 65), x.judged(6, 0), x.judged(0, 3),
            x.judged(0, 1), x.odds(4, 0), x.odds(0, 13), x.lots(0, 1), x.lots(1, 0), x.count(9), x.findings(6)};
    }

    @Says(of = 0, it = "What is refused changes nothing but finding(), findings().")
    void whatIsRefusedChangesNothing() {
        someOfAll();
        long digest = x.digest();
        for (int answer : refusedCalls()) {
            is("refused", answer == BAD || answer == STATE || answer == FINDING ? 1 : 0, 1);
        }
        is("digest()", x.digest(), digest);
        is("asked()", x.asked(), 2);
        is("upper()", x.upper(), 81);
        is("lower()", x.lower(), 256);
        is("on(0) as it was kept", x.on(0), 2);
        is("undo(0)", x.undo(0), 2);
        is("count(2)", x.count(2), 6);
        is("border(2, 1)", x.border(2, 1), 4);
    }

    @Says(of = 0, it = "What is refused changes nothing but finding(), findings().")
    void withoutThingsNeither() {
        x.move(0, 0, 0);
        long digest = x.digest();
        int[] answers = {x.keep(0), x.good(), x.cheapest(), x.fewest(), x.nearest(), x.clash(0), x.two(), x.least(),
            x.relent(), x.game(1), x.names(1), x.luck(), x.lots(1, 1)};
        for (int i = 0; i < answers.length; i++) {
            is("answer " + i, answers[i], STATE);
        }
        is("digest()", x.digest(), digest);
        is("asked()", x.asked(), 0);
        is("upper()", x.upper(), 0);
        is("lower()", x.lower(), 1);
        is("finding(), which STATE does not change", x.finding(), 0);
    }

    // ---- FINDINGS

    @Says(of = 0, it = "FINDINGS: 1 NOTHING (a ROW")
    void nothingForARowThatIsMissing() {
        refused("at(0, 0)", x.at(0, 0), 1);
    }

    @Says(of = 0, it = "1 NOTHING (a ROW, a TEXT")
    void nothingForATextThatIsMissing() {
        refused("put(0, 0, 0)", x.put(0, 0, 0), 1);
    }

    @Says(of = 0, it = ", a kept COURT that is missing)")
    void nothingForACourtThatIsMissing() {
        refused("on(0)", x.on(0), 1);
    }

    @Says(of = 0, it = "2 BEYOND (a place of a ROW")
    void beyondForARow() {
        x.row(0, 3);
        refused("at(0, 3)", x.at(0, 3), 2);
        refused("at(0, -1)", x.at(0, -1), 2);
    }

    @Says(of = 0, it = ", a TEXT that there is not)")
    void beyondForAText() {
        x.text(0, 3);
        refused("put(0, 3, 0)", x.put(0, 3, 0), 2);
        refused("put(0, -1, 0)", x.put(0, -1, 0), 2);
    }

    @Says(of = 0, it = "3 UNLIKE (a CLAUSE of another KIND")
    void unlikeForAKind() {
        court("t00000 c0");
        refused("mark(0, 1)", x.mark(0, NEITHER), 3);
    }

    @Says(of = 0, it = "; a number that is none)")
    void unlikeForANumber() {
        fill(0, 4, 0, 0);
        refused("fix(0)", x.fix(0), 3);
    }

    @Says(of = 0, it = "4 NOUGHT (shared among none)")
    void noughtSharedAmongNone() {
        x.row(0, 0);
        refused("mean(0)", x.mean(0), 4);
    }

    @Says(of = 0, it = "5 SIZE (fewer than none")
    void sizeBelowNone() {
        refused("row(0, -1)", x.row(0, -1), 5);
        refused("text(0, -1)", x.text(0, -1), 5);
    }

    @Says(of = 0, it = "; not as many as due)")
    void sizeNotAsDue() {
        x.row(0, 4);
        refused("fix(0)", x.fix(0), 5);
    }

    // ---- chances, sets

    @Says(of = 0, it = "Chances are told by upper(), lower(), in lowest terms")
    void chancesInLowestTerms() {
        court("t30000t30000 c0");
        chance("luck(), 1 of 4", x.luck(), 1, 4);
        chance("odds(0, 6), 6 of 12", x.odds(0, 6), 1, 2);
        chance("odds(0, 8), 8 of 12", x.odds(0, 8), 2, 3);
        chance("odds(0, 12), 12 of 12", x.odds(0, 12), 1, 1);
        x.move(0, 1, 3);
        chance("luck(), 3 of 4", x.luck(), 3, 4);
    }

    @Says(of = 0, it = "the lower number above 0 (0 by 1)")
    void noChanceIsNoughtByOne() {
        court("t00000t00000 c0");
        chance("luck(), 0 of 4", x.luck(), 0, 1);
        chance("odds(3, 1)", x.odds(3, 1), 1, 12);
        chance("odds(3, 0)", x.odds(3, 0), 0, 1);
    }

    @Says(of = 0, it = "Sets (of THINGS")
    void setsOfThingsAreBits() {
        court("t00000t00000t00000t00000t20000t20000 c0");
        tells("good(): THINGS 4 and 5", x.good(), 16, 16 + 32);
        is("cost(63)", x.cost(63), 0);
    }

    @Says(of = 0, it = ", of CLAUSES")
    void setsOfClausesAreBits() {
        court("t00000 c0 u0 c1 u1 c2 u2 c3 u3");
        is("holds(0)", x.holds(0), 2 + 8 + 32 + 128);
    }

    @Says(of = 0, it = ", of KINDS) are told by bits.")
    void setsOfKindsAreBits() {
        court("t00000 u0");
        is("kinds(0, 2)", x.kinds(0, 2), 1 << UNDONE);
        is("kinds(0, 0)", x.kinds(0, 0), 63 - (1 << UNDONE));
    }

    // ---- ROWS, TEXTS

    @Says(of = 0, it = "ROWS 0 .. 5 are rows of 0 to 40 ints")
    void sixRowsOfUpToForty() {
        for (int r = 0; r <= 5; r++) {
            is("row(" + r + ", 40)", x.row(r, 40), 40);
            is("lay the last place", x.lay(r, 39, 100 + r), 1);
            is("lay the first place", x.lay(r, 0, 200 + r), 1);
        }
        for (int r = 0; r <= 5; r++) {
            tells("the last place", x.at(r, 39), 1, 100 + r);
            tells("the first place", x.at(r, 0), 1, 200 + r);
            is("row(" + r + ", 0)", x.row(r, 0), 0);
        }
        is("row(6, 0)", x.row(6, 0), BAD);
        is("count(6)", x.count(6), 6);
    }

    @Says(of = 0, it = "TEXTS 0 .. 3 rows of 0 to 80 bytes")
    void fourTextsOfUpToEighty() {
        for (int t = 0; t <= 3; t++) {
            is("text(" + t + ", 80)", x.text(t, 80), 80);
            is("put the last place", x.put(t, 79, 100 + t), 1032);
            is("put the first place", x.put(t, 0, 50 + t), 1032);
        }
        for (int t = 0; t <= 3; t++) {
            is("the last place", x.put(t, 79, 0), 1100 + t);
            is("the first place", x.put(t, 0, 0), 1050 + t);
            is("text(" + t + ", 0)", x.text(t, 0), 0);
        }
        is("text(4, 0)", x.text(4, 0), BAD);
        is("count(7)", x.count(7), 4);
    }

    @Says(of = 0, it = ", or missing (at first).")
    void atFirstAllAreMissing() {
        for (int r = 0; r <= 5; r++) {
            refused("tear(" + r + ")", x.tear(r), NOTHING);
        }
        for (int t = 0; t <= 3; t++) {
            refused("fault(" + t + ")", x.fault(t), NOTHING);
        }
    }

    // ---- RULINGS, LOTS

    @Says(of = 0, it = "A RULING is three numbers: a TRAIT")
    void aRulingHasATrait() {
        for (int trait = 0; trait <= 3; trait++) {
            fill(0, trait, 0, 0);
            is("fix(0) of TRAIT " + trait, x.fix(0), 0);
        }
        for (int none : NO_TRAIT) {
            fill(0, none, 0, 0);
            refused("fix(0) of TRAIT " + none, x.fix(0), UNLIKE);
        }
    }

    @Says(of = 0, it = "a VALUE (0 .. 5)")
    void aRulingHasAValue() {
        for (int v = 0; v <= 5; v++) {
            fill(0, 0, v, 0);
            is("fix(0) of VALUE " + v, x.fix(0), 0);
        }
        for (int none : new int[] {-1, 6, MIN, MAX}) {
            fill(0, 0, none, 0);
            refused("fix(0) of VALUE " + none, x.fix(0), UNLIKE);
        }
    }

    @Says(of = 0, it = "whether it was MUCH then (1, 0).")
    void aRulingHasWhetherItWasMuch() {
        fill(0, 0, 3, 1, 1, 3, 0);
        is("1: MUCH", x.follows(0, 0, 3), 1);
        is("0: not", x.follows(0, 1, 3), 0);
        for (int none : NO_FLAG) {
            fill(0, 0, 3, none);
            refused("fix(0) of " + none, x.fix(0), UNLIKE);
        }
    }

    @Says(of = 0, it = "RULINGS in a ROW of threes CONTRADICT, if of one TRAIT a VALUE was MUCH, and one as great or greater was not.")
    void asGreatOrGreaterContradicts() {
        int[] want = {0, 0, 0, 1, 1, 1};
        for (int v = 0; v <= 5; v++) {
            fill(0, 2, 3, 1, 2, v, 0);
            is("MUCH at 3, not at " + v, x.contradict(0), want[v]);
            fill(0, 2, v, 0, 2, 3, 1);
            is("not at " + v + ", MUCH at 3", x.contradict(0), want[v]);
            fill(0, 2, 3, 1, 1, v, 0);
            is("of another TRAIT", x.contradict(0), 0);
            fill(0, 2, 3, 1, 2, v, 1);
            is("both MUCH", x.contradict(0), 0);
            fill(0, 2, 3, 0, 2, v, 0);
            is("neither MUCH", x.contradict(0), 0);
        }
    }

    @Says(of = 0, it = "What FOLLOWS of a TRAIT and a VALUE: 1, if one no greater was MUCH;")
    void muchFollowsFromOneNoGreater() {
        fill(0, 1, 2, 1);
        int[] want = {NONE, NONE, 1, 1, 1, 1};
        for (int v = 0; v <= 5; v++) {
            is("follows(0, 1, " + v + ")", x.follows(0, 1, v), want[v]);
        }
    }

    @Says(of = 0, it = "0, if one no less was not;")
    void notMuchFollowsFromOneNoLess() {
        fill(0, 1, 2, 0);
        int[] want = {0, 0, 0, NONE, NONE, NONE};
        for (int v = 0; v <= 5; v++) {
            is("follows(0, 1, " + v + ")", x.follows(0, 1, v), want[v]);
        }
    }

    @Says(of = 0, it = "else they are SILENT.")
    void elseTheyAreSilent() {
        fill(0, 1, 1, 0, 1, 4, 1);
        is("follows(0, 1, 2), between both", x.follows(0, 1, 2), NONE);
        is("follows(0, 1, 3), between both", x.follows(0, 1, 3), NONE);
        is("follows(0, 0, 5), another TRAIT", x.follows(0, 0, 5), NONE);
    }

    @Says(of = 0, it = "LOTS: a number comes from the one ahead by 48271 times it modulo 2147483647")
    void aNumberComesFromTheOneAhead() {
        court("t00000t00000t00000t00000t00000t10000 c0");
        bordersTo(0, 0, 1);
        // From 1: 48271, 182605794, 1291394886, 1914720637, 2078669041; by 16, cut: bits 5 are 0, 1, 1, 0, 0.
        int[] want = {0, 1, 2, 2, 2};
        for (int n = 1; n <= 5; n++) {
            is("lots(" + n + ", 1)", x.lots(n, 1), want[n - 1]);
        }
    }

    @Says(of = 0, it = "the first from a seed (1 .. 2147483646).")
    void theFirstNumberComesFromASeed() {
        court("t10000 c0");
        bordersTo(0, 0, 1);
        // From 1: 48271 by 16 is 3016; from the last one: 2147483647 - 48271 by 16 is 134214711.
        is("lots(1, 1)", x.lots(1, 1), 0);
        is("lots(1, 2147483646)", x.lots(1, 2147483646), 1);
        is("lots(1, 0)", x.lots(1, 0), BAD);
        is("lots(1, -1)", x.lots(1, -1), BAD);
        is("lots(1, 2147483647)", x.lots(1, 2147483647), BAD);
    }

    // ---- the words ahead of the calls

    @Says(of = 0, it = "(as sets of THINGS: BAD, if there are not such")
    void noSuchSetOfThings() {
        court("t00000t00000");
        for (int none : new int[] {4, 8, 1 << 30, -1, MIN, MAX}) {
            is("value(" + none + ", 0)", x.value(none, 0), BAD);
            is("cost(" + none + ")", x.cost(none), BAD);
            is("holds(" + none + ")", x.holds(none), BAD);
            is("tight(" + none + ")", x.tight(none), BAD);
        }
        is("cost(3)", x.cost(3), 0);
    }

    @Says(of = 0, it = "; 0, none of them, is always one)")
    void theWayOfNoneIsAlwaysOne() {
        is("value(0, 0)", x.value(0, 0), 0);
        is("cost(0)", x.cost(0), 0);
        tells("holds(0)", x.holds(0), 0, 1);
        is("tight(0)", x.tight(0), 1);
        is("cost(1)", x.cost(1), BAD);
        court("t33339");
        is("value(0, 0)", x.value(0, 0), 0);
        is("cost(0)", x.cost(0), 0);
    }

    private void rulings(int r, String call, int want) {
        int[] got = {x.contradict(r), x.fix(r), x.follows(r, 0, 0), x.borders(r, 0)};
        for (int i = 0; i < got.length; i++) {
            is(call + ", call " + i, got[i], want);
        }
    }

    @Says(of = 0, it = "(a ROW: NOTHING")
    void rulingsInARowThatIsMissing() {
        rulings(0, "NOTHING", FINDING);
        is("findings(1)", x.findings(NOTHING), 4);
    }

    @Says(of = 0, it = "; SIZE: not by threes")
    void rulingsNotByThrees() {
        int[] sizes = {1, 2, 4, 5, 37, 38, 40};
        for (int i = 0; i < sizes.length; i++) {
            x.row(0, sizes[i]);
            rulings(0, "of " + sizes[i], FINDING);
            is("findings(5)", x.findings(SIZE), 4 * (i + 1));
        }
    }

    @Says(of = 0, it = "; UNLIKE: not as told")
    void rulingsNotAsTold() {
        x.row(0, 39);
        is("fix(0)", x.fix(0), 0);
        x.lay(0, 38, 2);
        rulings(0, "the last number is none", FINDING);
        is("findings(3)", x.findings(UNLIKE), 4);
        x.lay(0, 38, 0);
        x.lay(0, 0, -1);
        rulings(0, "the first number is none", FINDING);
        is("findings(3)", x.findings(UNLIKE), 8);
    }

    @Says(of = 0, it = "; behind BAD, in this order)")
    void rulingsInThisOrder() {
        is("BAD ahead of NOTHING", x.follows(0, 4, 0), BAD);
        is("BAD ahead of NOTHING", x.borders(0, 4), BAD);
        fill(0, 9, 9, 9, 9);
        is("BAD ahead of SIZE", x.follows(0, 0, 6), BAD);
        refused("SIZE ahead of UNLIKE", x.contradict(0), SIZE);
        refused("SIZE ahead of UNLIKE", x.fix(0), SIZE);
        refused("SIZE ahead of UNLIKE", x.follows(0, 0, 0), SIZE);
        refused("SIZE ahead of UNLIKE", x.borders(0, 0), SIZE);
        fill(0, 9, 9, 9);
        is("BAD ahead of UNLIKE", x.borders(0, -1), BAD);
        refused("UNLIKE then", x.borders(0, 0), UNLIKE);
    }
}
