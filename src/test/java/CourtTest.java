/** Promises 8 to 15: TEXTS, FAULTS, COURTS, what THINGS and CLAUSES are. */
final class CourtTest {
    private static final int BAD = -1, FINDING = -3, STATE = -4, NONE = -9;
    private static final int NOTHING = 1, BEYOND = 2, UNLIKE = 3, SIZE = 5;
    private static final String ALL = "t21003t03012t12215t00334t30001 n0 u1 c2 b23 h0 x31";
    private static final Due due = new Due("CourtTest");

    public static void main(String[] args) {
        promise8Text();
        promise9Put();
        promise10Fault();
        promise10FaultOfSigns();
        promise11Court();
        promise12Thing();
        promise13Clause();
        promise14Mark();
        promise14MarkByBorders();
        promise15Border();
        due.end();
    }

    private static void promise8Text() {
        NeitherBare x = new NeitherBare();
        due.is("text(0, 80)", x.text(0, 80), 80);
        due.is("text(3, 0)", x.text(3, 0), 0);
        due.is("count(7)", x.count(7), 2);
        due.is("text(0, 81)", x.text(0, 81), BAD);
        due.is("text(4, 1)", x.text(4, 1), BAD);
        due.is("text(-1, 1)", x.text(-1, 1), BAD);
        due.finding(x, "text(0, -1)", x.text(0, -1), SIZE);
        x.put(0, 5, 65);
        due.is("text(0, 6) anew", x.text(0, 6), 6);
        due.is("a blank", x.put(0, 5, 65), 1032);
    }

    private static void promise9Put() {
        NeitherBare x = new NeitherBare();
        x.text(1, 2);
        due.is("put(1, 0, 127)", x.put(1, 0, 127), 1032);
        due.is("put(1, 0, 128)", x.put(1, 0, 128), 1127);
        due.is("put(1, 0, -1)", x.put(1, 0, -1), 872);
        due.is("put(1, 0, 256)", x.put(1, 0, 256), 999);
        due.is("put(1, 0, 353)", x.put(1, 0, 353), 1000);
        due.is("put(1, 0, 0)", x.put(1, 0, 0), 1097);
        due.is("put(1, 1, 0)", x.put(1, 1, 0), 1032);
        due.is("put(4, 0, 0)", x.put(4, 0, 0), BAD);
        due.is("put(-1, 0, 0)", x.put(-1, 0, 0), BAD);
        due.finding(x, "put(0, 0, 0)", x.put(0, 0, 0), NOTHING);
        due.finding(x, "put(1, 2, 0)", x.put(1, 2, 0), BEYOND);
        due.finding(x, "put(1, -1, 0)", x.put(1, -1, 0), BEYOND);
    }

    private static void fault(String signs, int want) {
        NeitherBare x = new NeitherBare();
        Due.write(x, 2, signs);
        due.is("fault of '" + signs + "'", x.fault(2), want);
        due.is("court of '" + signs + "'", Math.min(x.court(2), 0), want == NONE ? 0 : STATE);
    }

    private static void promise10Fault() {
        NeitherBare x = new NeitherBare();
        due.is("fault(4)", x.fault(4), BAD);
        due.is("fault(-1)", x.fault(-1), BAD);
        due.finding(x, "fault(0)", x.fault(0), NOTHING);
        fault(ALL, NONE);
        fault("t00000", NONE);
        fault("  t33339  t00000  ", NONE);
        fault("t00000c0", NONE);
        fault("t00000n0u1h2b01x32c3", NONE);
        fault("t00000t00000t00000t00000t00000t00000", NONE);
        fault("t00000c0c0c0c0c0c0c0c0  ", NONE);
        fault("t00000 b01 x10", NONE);
    }

    private static void promise10FaultOfSigns() {
        fault("", 0);
        fault("   ", 3);
        fault("t", 1);
        fault("t0000", 5);
        fault("t00000b0", 8);
        fault("t00000c", 7);
        fault("t00000 c ", 8);
        fault("t0000 0", 5);
        fault("t40000", 1);
        fault("t00040", 4);
        fault("t0000:", 5);
        fault("t/0000", 1);
        fault("t00000 c4", 8);
        fault("t00000 c/", 8);
        fault("t00000 b00", 9);
        fault("t00000 x11", 9);
        fault("t00000 b04", 9);
        fault("t00000 b0 1", 9);
        fault("t00000 c01", 9);
        fault("t00000 a0", 7);
        fault("t00000 T0", 7);
        fault("c0", 0);
        fault(" c0 t00000", 1);
        fault("t00000 c0 t00000", 10);
        fault("t00000t00000t00000t00000t00000t00000 t00000", 37);
        fault("t00000c0c0c0c0c0c0c0c0 c0", 23);
        fault("t00000c0c0c0c0c0c0c0c0 ?", 23);
        fault("5", 0);
        fault("t000005", 6);
        fault("t00000" + (char) 0, 6);
        fault("t00000" + (char) 160, 6);
    }

    private static void promise11Court() {
        NeitherBare x = Due.court(ALL);
        due.is("things", x.count(0), 5);
        due.is("clauses", x.count(1), 6);
        x.strike(0, 1);
        x.move(2, 1, 5);
        x.keep(0);
        x.keep(1);
        x.keep(2);
        due.is("court(4)", x.court(4), BAD);
        due.is("court(-1)", x.court(-1), BAD);
        due.finding(x, "court(1)", x.court(1), NOTHING);
        Due.write(x, 1, "t00000 c0 t00000");
        due.is("court(1) with a FAULT", x.court(1), STATE);
        due.is("things stay", x.count(0), 5);
        due.is("clauses stay", x.count(1), 6);
        due.is("DEEDS stay", x.count(3), 2);
        due.is("kept stay", x.count(8), 3);
        due.is("a fault is looked for", x.fault(1), 10);
        due.is("things stay behind fault()", x.count(0), 5);
        Due.write(x, 1, "t12341 t00000 c0");
        due.is("court(1) with a figure too great", x.court(1), STATE);
        Due.write(x, 1, "t12331 t00000 c0");
        due.is("court(1)", x.court(1), 2);
        due.is("clauses", x.count(1), 1);
        due.is("all ON", x.count(2), 1);
        due.is("no DEEDS", x.count(3), 0);
        due.is("kept go", x.count(8), 0);
        due.is("upper as at first", x.border(2, 1), 4);
        due.finding(x, "on(1)", x.on(1), NOTHING);
        due.is("the ROW of signs stays", x.count(7), 2);
    }

    private static void promise12Thing() {
        NeitherBare x = Due.court("t12309 t03214 c0");
        int[][] want = {{1, 2, 3, 0, 9}, {0, 3, 2, 1, 4}};
        for (int i = 0; i < 2; i++) {
            for (int what = 0; what < 5; what++) {
                due.is("thing(" + i + ", " + what + ")", x.thing(i, what), 1);
                due.is("asked()", x.asked(), want[i][what]);
            }
        }
        due.is("thing(2, 0)", x.thing(2, 0), BAD);
        due.is("thing(-1, 0)", x.thing(-1, 0), BAD);
        due.is("thing(0, 5)", x.thing(0, 5), BAD);
        due.is("thing(0, -1)", x.thing(0, -1), BAD);
        due.is("asked() as it was", x.asked(), 4);
    }

    private static void promise13Clause() {
        NeitherBare x = Due.court(ALL);
        int[][] want = {{1, 0, NONE, 1, 12}, {3, 1, NONE, 1, 20}, {0, 2, NONE, 1, 8},
            {2, 2, 3, 1, 8}, {4, 0, NONE, 1, 4}, {5, 3, 1, 1, 0}};
        for (int k = 0; k < want.length; k++) {
            for (int what = 0; what < 5; what++) {
                due.is("clause(" + k + ", " + what + ")", x.clause(k, what), 1);
                due.is("asked()", x.asked(), want[k][what]);
            }
        }
        x.strike(1, 1);
        x.clause(1, 3);
        due.is("clause(1, 3) STRUCK", x.asked(), 0);
        x.move(1, 1, 5);
        x.clause(1, 4);
        due.is("clause(1, 4) by another BORDER", x.asked(), 24);
        due.is("clause(6, 0)", x.clause(6, 0), BAD);
        due.is("clause(-1, 0)", x.clause(-1, 0), BAD);
        due.is("clause(0, 5)", x.clause(0, 5), BAD);
        due.is("clause(0, -1)", x.clause(0, -1), BAD);
        due.is("asked() as it was", x.asked(), 24);
    }

    private static void promise14Mark() {
        NeitherBare x = Due.court(ALL);
        int no = FINDING;
        int[][] want = {{2, no, no, no, no}, {no, no, 0, no, no}, {no, no, no, no, no},
            {no, 4, no, no, no}, {2, no, no, 2, no}, {no, 4, no, no, 8}};
        int unlike = 0;
        for (int k = 0; k < want.length; k++) {
            for (int kind = 1; kind <= 5; kind++) {
                due.is("mark(" + k + ", " + kind + ")", x.mark(k, kind), want[k][kind - 1]);
                unlike += want[k][kind - 1] == no ? 1 : 0;
            }
        }
        due.is("findings(3)", x.findings(UNLIKE), unlike);
        due.is("finding()", x.finding(), UNLIKE);
        due.is("mark(0, 0)", x.mark(0, 0), BAD);
        due.is("mark(0, 6)", x.mark(0, 6), BAD);
        due.is("mark(0, -1)", x.mark(0, -1), BAD);
        due.is("mark(6, 1)", x.mark(6, 1), BAD);
        due.is("mark(-1, 1)", x.mark(-1, 1), BAD);
    }

    private static void promise14MarkByBorders() {
        NeitherBare x = Due.court(ALL);
        x.move(0, 1, 2);
        due.is("no VALUE between", x.mark(0, 1), 0);
        due.is("half at none", x.mark(4, 4), NONE);
        x.move(0, 1, 3);
        due.is("half at 2", x.mark(4, 4), 2);
        x.move(0, 0, 0);
        due.is("half at 1", x.mark(4, 4), 1);
        due.is("two between", x.mark(4, 1), 2);
        x.move(1, 1, 2);
        due.is("two THINGS make it MUCH", x.mark(1, 3), 2);
        x.move(1, 0, 0);
        x.move(1, 1, 1);
        due.is("three THINGS make it MUCH, the first, too", x.mark(1, 3), 3);
        x.move(1, 1, 2);
        x.move(1, 0, 1);
        x.move(2, 1, 5);
        due.is("the greater upper one, the first", x.mark(3, 2), 5);
        x.move(2, 1, 3);
        x.move(3, 1, 2);
        due.is("the greater upper one of both", x.mark(3, 2), 3);
        x.move(1, 0, 0);
        due.is("LITTLE of the second TRAIT", x.mark(5, 5), 4);
    }

    private static void promise15Border() {
        NeitherBare x = new NeitherBare();
        x.move(3, 0, 2);
        x.move(3, 1, 5);
        due.is("border(3, 0)", x.border(3, 0), 2);
        due.is("border(3, 1)", x.border(3, 1), 5);
        due.is("border(2, 0)", x.border(2, 0), 1);
        due.is("border(2, 1)", x.border(2, 1), 4);
        due.is("border(4, 0)", x.border(4, 0), BAD);
        due.is("border(-1, 0)", x.border(-1, 0), BAD);
        due.is("border(0, 2)", x.border(0, 2), BAD);
        due.is("border(0, -1)", x.border(0, -1), BAD);
    }
}
