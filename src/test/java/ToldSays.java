/** Promises 46 to 52, sentence by sentence: what is told. */
final class ToldSays extends Sentences {

    // ---- asked

    @Says(of = 46, it = "What the latest lay(), at(), mean(), thing(), clause(), holds(), good(), cheapest(), fewest(), "
        + "nearest(), two(), least(), relent(), contradict(), fix(), falls(), judged()")
    void askedOfEachCall() {
        court("t30005t30002 c0");
        fill(0, 7, 9);
        tells("lay(0, 1, 1)", x.lay(0, 1, 1), 1, 9);
        tells("at(0, 0)", x.at(0, 0), 1, 7);
        tells("mean(0)", x.mean(0), 1, 4);
        tells("thing(1, 4)", x.thing(1, 4), 1, 2);
        tells("clause(0, 4)", x.clause(0, 4), 1, 1);
        tells("holds(0)", x.holds(0), 0, 0);
        tells("good()", x.good(), 1, 3);
        tells("cheapest()", x.cheapest(), 3, 7);
        tells("fewest()", x.fewest(), 3, 2);
        tells("nearest()", x.nearest(), 3, 1);
        tells("two()", x.two(), NONE, 0);
        tells("falls(0, 1, 3)", x.falls(0, 1, 3), 0, 2);
        tells("relent()", x.relent(), 0, 0);
        fill(1, 3, 1);
        tells("judged(0, 1)", x.judged(0, 1), 15, 1);
        fill(1, 0, 3, 0, 0, 3, 1);
        tells("contradict(1)", x.contradict(1), 1, 1);
        tells("mean(1)", x.mean(1), 1, 1);
        tells("fix(1)", x.fix(1), 1, 1);
        write(1, "t30005t30002 u1 c0 u0");
        x.court(1);
        tells("least()", x.least(), 2, 6);
    }

    @Says(of = 46, it = "that was not refused")
    void askedBehindARefusedOne() {
        court("t30005 c0");
        fill(0, 1, 1, 1, 1);
        x.thing(0, 4);
        int[] refused = {x.lay(0, 4, 1), x.at(0, 4), x.mean(1), x.thing(1, 0), x.clause(1, 0), x.holds(2),
            x.contradict(0), x.fix(1), x.falls(0, 0, 4), x.judged(0, 1)};
        for (int answer : refused) {
            is("refused", answer < 0 ? 1 : 0, 1);
        }
        is("asked()", x.asked(), 5);
    }

    @Says(of = 46, it = "(nor NONE")
    void askedBehindNone() {
        court("t30005 c0");
        x.thing(0, 4);
        tells("cheapest()", x.cheapest(), NONE, 5);
        tells("fewest()", x.fewest(), NONE, 5);
        x.move(0, 1, 3);
        x.thing(0, 4);
        tells("least()", x.least(), NONE, 5);
    }

    @Says(of = 46, it = ", but as told) told")
    void askedBehindNoneAsTold() {
        court("t30005 c0 u1");
        x.thing(0, 4);
        tells("good(), none", x.good(), 0, NONE);
        x.thing(0, 4);
        x.move(0, 1, 3);
        tells("two(), none", x.two(), NONE, 0);
        x.thing(0, 4);
        tells("clause(0, 2), none", x.clause(0, 2), 1, NONE);
        x.row(0, 0);
        x.thing(0, 4);
        tells("contradict(0), none", x.contradict(0), 0, NONE);
        fill(0, 0, 1);
        x.thing(0, 4);
        tells("judged(0, 0), none", x.judged(0, 0), 0, NONE);
    }

    @Says(of = 46, it = "; 0 before.")
    void askedBefore() {
        is("asked()", x.asked(), 0);
        x.row(0, 3);
        x.at(0, 3);
        is("asked()", x.asked(), 0);
    }

    @Says(of = 46, it = "What the latest lay(), at()")
    void askedOfNoOtherCall() {
        court("t30005t30002 c0");
        x.thing(0, 4);
        x.row(0, 4);
        x.copy(0, 0, 0, 1, 2);
        x.mark(0, 1);
        x.border(0, 0);
        x.strike(0, 1);
        x.move(0, 0, 0);
        x.undo(1);
        x.keep(0);
        x.on(0);
        x.value(3, 0);
        x.cost(3);
        x.tight(3);
        x.clash(1);
        x.game(2);
        x.names(1);
        x.tear(0);
        x.row(0, 0);
        x.follows(0, 0, 0);
        x.borders(0, 0);
        x.worth(0);
        x.kinds(0, 0);
        x.odds(0, 3);
        x.luck();
        x.lots(3, 3);
        x.count(1);
        x.findings(1);
        x.digest();
        x.text(1, 2);
        x.put(1, 0, 7);
        x.fault(1);
        x.court(0);
        is("asked()", x.asked(), 5);
    }

    // ---- upper, lower

    @Says(of = 47, it = "The upper number of the chances that were told last")
    void upperToldLast() {
        court(LADDER + " c0");
        x.luck();
        is("upper()", x.upper(), 3);
        x.odds(0, 8);
        is("upper()", x.upper(), 2);
        x.good();
        x.odds(8, 1);
        x.odds(0, 13);
        is("upper(), told last", x.upper(), 2);
        x.luck();
        is("upper()", x.upper(), 3);
    }

    @Says(of = 47, it = "; 0 before.")
    void upperBefore() {
        is("upper()", x.upper(), 0);
        x.luck();
        is("upper() behind what is refused", x.upper(), 0);
    }

    @Says(of = 48, it = "Its lower number")
    void lowerToldLast() {
        court(LADDER + " c0");
        x.luck();
        is("lower()", x.lower(), 8);
        x.odds(0, 8);
        is("lower()", x.lower(), 3);
        x.good();
        x.odds(8, 1);
        x.odds(0, 13);
        is("lower(), told last", x.lower(), 3);
        x.luck();
        is("lower()", x.lower(), 8);
    }

    @Says(of = 48, it = "; 1 before.")
    void lowerBefore() {
        is("lower()", x.lower(), 1);
        x.luck();
        is("lower() behind what is refused", x.lower(), 1);
    }

    // ---- count

    @Says(of = 49, it = "0 THINGS")
    void countOfThings() {
        is("count(0)", x.count(0), 0);
        for (int many = 1; many <= 6; many++) {
            write(0, "t00000".repeat(many));
            x.court(0);
            is("count(0)", x.count(0), many);
        }
    }

    @Says(of = 49, it = ", 1 CLAUSES")
    void countOfClauses() {
        is("count(1)", x.count(1), 0);
        for (int many = 0; many <= 8; many++) {
            write(0, "t00000" + "c0".repeat(many));
            x.court(0);
            is("count(1)", x.count(1), many);
        }
        x.strike(0, 1);
        is("count(1), one STRUCK", x.count(1), 8);
    }

    @Says(of = 49, it = ", 2 CLAUSES that are ON")
    void countOfThoseThatAreOn() {
        is("count(2)", x.count(2), 0);
        court(GREATEST);
        is("count(2)", x.count(2), 8);
        for (int k = 0; k <= 7; k++) {
            x.strike(k, 1);
            is("count(2)", x.count(2), 7 - k);
        }
    }

    @Says(of = 49, it = ", 3 DEEDS")
    void countOfDeeds() {
        is("count(3)", x.count(3), 0);
        for (int i = 1; i <= 40; i++) {
            x.move(0, 1, 4 + i % 2);
            is("count(3)", x.count(3), i);
        }
        x.move(0, 1, 5);
        is("count(3), FULL", x.count(3), 40);
        x.undo(7);
        is("count(3)", x.count(3), 7);
    }

    @Says(of = 49, it = ", 4 NEITHER ones (HALVES, too)")
    void countOfNeitherOnes() {
        is("count(4)", x.count(4), 0);
        court("t00000 c0 n0 b01 u0 h0 x01 n1");
        is("count(4)", x.count(4), 3);
        x.strike(1, 1);
        is("count(4), STRUCK ones, too", x.count(4), 3);
        court("t00000 h0");
        is("count(4), a HALF alone", x.count(4), 1);
        court("t00000 n0");
        is("count(4), a NEITHER alone", x.count(4), 1);
        court("t00000 n0n0n0n0h0h0h0h0");
        is("count(4), all eight", x.count(4), 8);
        write(0, "t00000 c0 b01 u0 x01");
        x.court(0);
        is("count(4), none", x.count(4), 0);
    }

    @Says(of = 49, it = ", 5 BOTH ones (BUTS, too)")
    void countOfBothOnes() {
        is("count(5)", x.count(5), 0);
        court("t00000 c0 n0 b01 u0 h0 x01 x12");
        is("count(5)", x.count(5), 3);
        x.strike(2, 1);
        is("count(5), STRUCK ones, too", x.count(5), 3);
        court("t00000 x01");
        is("count(5), a BUT alone", x.count(5), 1);
        court("t00000 b01");
        is("count(5), a BOTH alone", x.count(5), 1);
        court("t00000 b01b01b01b01x01x01x01x01");
        is("count(5), all eight", x.count(5), 8);
        write(0, "t00000 c0 n0 u0 h0");
        x.court(0);
        is("count(5), none", x.count(5), 0);
    }

    @Says(of = 49, it = ", 6 ROWS")
    void countOfRows() {
        for (int r = 0; r <= 5; r++) {
            is("count(6)", x.count(6), r);
            x.row(r, 0);
            x.row(r, r);
        }
        is("count(6)", x.count(6), 6);
        x.tear(0);
        is("count(6)", x.count(6), 5);
    }

    @Says(of = 49, it = ", 7 TEXTS that are there")
    void countOfTexts() {
        for (int t = 3; t >= 0; t--) {
            is("count(7)", x.count(7), 3 - t);
            x.text(t, 0);
            x.text(t, t);
        }
        is("count(7)", x.count(7), 4);
    }

    @Says(of = 49, it = ", 8 kept COURTS.")
    void countOfKeptCourts() {
        is("count(8)", x.count(8), 0);
        court("t00000");
        x.keep(2);
        is("count(8)", x.count(8), 1);
        x.keep(0);
        x.keep(0);
        is("count(8)", x.count(8), 2);
        x.keep(1);
        x.on(1);
        is("count(8)", x.count(8), 3);
        x.court(0);
        is("count(8)", x.count(8), 0);
    }

    @Says(of = 49, it = "BAD.")
    void countOfNone() {
        for (int none : new int[] {-1, 9, MIN, MAX}) {
            is("count(" + none + ")", x.count(none), BAD);
        }
    }

    // ---- finding, findings

    @Says(of = 50, it = "The latest FINDING")
    void theLatestFinding() {
        court("t00000 c0");
        x.tear(0);
        is("finding()", x.finding(), NOTHING);
        x.put(0, 80, 0);
        is("finding()", x.finding(), BEYOND);
        x.mark(0, 1);
        is("finding()", x.finding(), UNLIKE);
        x.row(0, 0);
        x.mean(0);
        is("finding()", x.finding(), NOUGHT);
        x.row(0, -1);
        is("finding()", x.finding(), SIZE);
        x.row(0, 41);
        x.strike(0, 0);
        x.cheapest();
        x.row(0, 1);
        is("finding(), the latest one still", x.finding(), SIZE);
        x.tear(1);
        is("finding()", x.finding(), NOTHING);
    }

    @Says(of = 50, it = "(0 before any).")
    void noFindingBeforeAny() {
        is("finding()", x.finding(), 0);
        x.row(6, 0);
        x.good();
        is("finding() behind BAD, STATE", x.finding(), 0);
    }

    @Says(of = 51, it = "How often a FINDING (1 .. 5) was answered.")
    void howOftenAFinding() {
        court("t00000 c0");
        x.row(5, 0);
        int[] often = {0, 0, 0, 0, 0};
        for (int i = 0; i < 15; i++) {
            int f = 1 + i % 5;
            int answer = f == NOTHING ? x.tear(0) : f == BEYOND ? x.at(5, 0) : f == UNLIKE ? x.mark(0, 1)
                : f == NOUGHT ? x.mean(5) : x.row(0, -1);
            is("answer", answer, FINDING);
            often[f - 1]++;
            for (int g = 1; g <= 5; g++) {
                is("findings(" + g + ")", x.findings(g), often[g - 1]);
            }
        }
        x.row(6, 0);
        is("findings(5), BAD is none", x.findings(5), 3);
    }

    @Says(of = 51, it = "BAD.")
    void findingsOfNone() {
        for (int none : new int[] {0, 6, -1, MIN, MAX}) {
            is("findings(" + none + ")", x.findings(none), BAD);
        }
    }

    // ---- digest

    private static long digestOf(int... numbers) {
        long h = 17;
        for (int v : numbers) {
            h = 31 * h + v;
        }
        return h;
    }

    @Says(of = 52, it = "h = 17; then h = 31 h + v for each v: count() 0 to 8")
    void digestOfCounts() {
        is("digest() of a new one", x.digest(), digestOf(0, 0, 0, 0, 0, 0, 0, 0, 0, 1, 4, 1, 4, 1, 4, 1, 4,
            -1, -1, -1, -1, -1, -1, -1, -1, -1, -1, -1, -1, -1));
        x.move(0, 1, 5);
        x.move(0, 1, 4);
        is("digest(), two DEEDS", x.digest(), digestOf(0, 0, 0, 2, 0, 0, 0, 0, 0, 1, 4, 1, 4, 1, 4, 1, 4,
            -1, -1, -1, -1, -1, -1, -1, -1, -1, -1, -1, -1, -1));
    }

    @Says(of = 52, it = "; border() 0, 1 of each TRAIT")
    void digestOfBorders() {
        x.move(0, 0, 0);
        x.move(1, 1, 5);
        x.move(2, 0, 2);
        x.move(3, 1, 3);
        is("digest()", x.digest(), digestOf(0, 0, 0, 4, 0, 0, 0, 0, 0, 0, 4, 1, 5, 2, 4, 1, 3,
            -1, -1, -1, -1, -1, -1, -1, -1, -1, -1, -1, -1, -1));
    }

    @Says(of = 52, it = "; of each THING thing() 0 to 4")
    void digestOfThings() {
        court("t01239t32104");
        x.text(0, 0);
        is("digest()", x.digest(), digestOf(2, 0, 0, 0, 0, 0, 0, 1, 0, 1, 4, 1, 4, 1, 4, 1, 4,
            0, 1, 2, 3, 9, 3, 2, 1, 0, 4, -1, -1, -1, -1, -1, -1, -1, -1, -1, 0, -1, -1, -1));
    }

    @Says(of = 52, it = "; of each CLAUSE clause() 0 to 4")
    void digestOfClauses() {
        court("t00000 u2 x31");
        x.text(0, 0);
        x.strike(1, 1);
        is("digest()", x.digest(), digestOf(1, 2, 1, 1, 0, 1, 0, 1, 0, 1, 4, 1, 4, 1, 4, 1, 4, 0, 0, 0, 0, 0,
            3, 2, -9, 1, 2, 5, 3, 1, 0, 0, -1, -1, -1, -1, -1, -1, -1, -1, -1, 0, -1, -1, -1));
        is("asked(), which digest() does not change", x.asked(), 0);
    }

    @Says(of = 52, it = "; of each kept COURT how many DEEDS (-1: missing)")
    void digestOfKeptCourts() {
        court("t00000");
        x.text(0, 0);
        x.keep(2);
        x.move(0, 0, 0);
        x.keep(0);
        x.undo(0);
        is("digest()", x.digest(), digestOf(1, 0, 0, 0, 0, 0, 0, 1, 2, 1, 4, 1, 4, 1, 4, 1, 4, 0, 0, 0, 0, 0,
            1, -1, 0, -1, -1, -1, -1, -1, -1, 0, -1, -1, -1));
    }

    @Says(of = 52, it = "; of each ROW its size (-1: missing) and places")
    void digestOfRows() {
        fill(0, MIN, MAX);
        x.row(2, 0);
        fill(5, 9);
        is("digest()", x.digest(), digestOf(0, 0, 0, 0, 0, 0, 3, 0, 0, 1, 4, 1, 4, 1, 4, 1, 4, -1, -1, -1,
            2, MIN, MAX, -1, 0, -1, -1, 1, 9, -1, -1, -1, -1));
        x.tear(0);
        is("digest(), torn", x.digest(), digestOf(0, 0, 0, 0, 0, 0, 2, 0, 0, 1, 4, 1, 4, 1, 4, 1, 4, -1, -1, -1,
            -1, -1, 0, -1, -1, 1, 9, -1, -1, -1, -1));
    }

    @Says(of = 52, it = ", of each TEXT likewise.")
    void digestOfTexts() {
        x.text(0, 2);
        x.put(0, 1, 200);
        x.text(3, 0);
        is("digest()", x.digest(), digestOf(0, 0, 0, 0, 0, 0, 0, 2, 0, 1, 4, 1, 4, 1, 4, 1, 4, -1, -1, -1,
            -1, -1, -1, -1, -1, -1, 2, 32, -56, -1, -1, 0));
    }

    @Says(of = 52, it = "then h = 31 h + v for each v")
    void digestWrapsAround() {
        x.row(0, 40);
        int[] numbers = new int[9 + 8 + 3 + 41 + 5 + 4];
        java.util.Arrays.fill(numbers, -1);
        int[] first = {0, 0, 0, 0, 0, 0, 1, 0, 0, 1, 4, 1, 4, 1, 4, 1, 4, -1, -1, -1, 40};
        System.arraycopy(first, 0, numbers, 0, first.length);
        for (int i = 0; i < 40; i++) {
            x.lay(0, i, MAX - i);
            numbers[first.length + i] = MAX - i;
        }
        is("digest()", x.digest(), digestOf(numbers));
    }
}
