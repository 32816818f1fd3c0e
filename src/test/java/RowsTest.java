/** Promises 1 to 7: a new object, ROWS. */
final class RowsTest {
    private static final int BAD = -1, FINDING = -3;
    private static final int NOTHING = 1, BEYOND = 2, NOUGHT = 4, SIZE = 5;
    private static final Due due = new Due("RowsTest");

    public static void main(String[] args) {
        promise1NewObject();
        promise2Row();
        promise3Lay();
        promise4At();
        promise5Tear();
        promise6Copy();
        promise6CopyRefused();
        promise7Mean();
        due.end();
    }

    private static void promise1NewObject() {
        NeitherBare x = new NeitherBare();
        int[] counts = {0, 0, 0, 0, 0, 0, 0, 0, 0};
        for (int what = 0; what < counts.length; what++) {
            due.is("new count(" + what + ")", x.count(what), counts[what]);
        }
        for (int trait = 0; trait < 4; trait++) {
            due.is("new border(" + trait + ", 0)", x.border(trait, 0), 1);
            due.is("new border(" + trait + ", 1)", x.border(trait, 1), 4);
        }
        due.finding(x, "new tear(0)", x.tear(0), NOTHING);
        due.finding(x, "new fault(3)", x.fault(3), NOTHING);
        due.is("new thing(0, 0)", x.thing(0, 0), BAD);
        due.is("new clause(0, 0)", x.clause(0, 0), BAD);
        due.is("new good()", x.good(), -4);
        NeitherBare y = new NeitherBare();
        due.is("new asked()", y.asked(), 0);
        due.is("new upper()", y.upper(), 0);
        due.is("new lower()", y.lower(), 1);
        due.is("new finding()", y.finding(), 0);
        due.is("new findings(1)", y.findings(1), 0);
    }

    private static void promise2Row() {
        NeitherBare x = new NeitherBare();
        due.is("row(0, 3)", x.row(0, 3), 3);
        due.is("row(5, 40)", x.row(5, 40), 40);
        due.is("row(1, 0)", x.row(1, 0), 0);
        due.is("count(6)", x.count(6), 3);
        due.is("row(-1, 3)", x.row(-1, 3), BAD);
        due.is("row(6, 3)", x.row(6, 3), BAD);
        due.is("row(0, 41)", x.row(0, 41), BAD);
        due.is("row(6, -1)", x.row(6, -1), BAD);
        due.is("finding()", x.finding(), 0);
        due.finding(x, "row(0, -1)", x.row(0, -1), SIZE);
        due.finding(x, "row(0, MIN)", x.row(0, Integer.MIN_VALUE), SIZE);
        x.lay(0, 2, 7);
        due.is("row(0, -1) changes nothing", x.row(0, -1), FINDING);
        x.at(0, 2);
        due.is("asked()", x.asked(), 7);
        due.is("row(0, 3) anew", x.row(0, 3), 3);
        x.at(0, 2);
        due.is("asked() anew", x.asked(), 0);
    }

    private static void promise3Lay() {
        NeitherBare x = new NeitherBare();
        x.row(2, 4);
        due.is("lay(2, 3, -5)", x.lay(2, 3, -5), 1);
        due.is("asked()", x.asked(), 0);
        due.is("lay(2, 3, 9)", x.lay(2, 3, 9), 1);
        due.is("asked()", x.asked(), -5);
        due.is("lay(2, 3, MAX)", x.lay(2, 3, Integer.MAX_VALUE), 1);
        due.is("asked()", x.asked(), 9);
        due.is("lay(6, 0, 1)", x.lay(6, 0, 1), BAD);
        due.is("lay(-1, 0, 1)", x.lay(-1, 0, 1), BAD);
        due.finding(x, "lay(3, 0, 1)", x.lay(3, 0, 1), NOTHING);
        due.finding(x, "lay(2, 4, 1)", x.lay(2, 4, 1), BEYOND);
        due.finding(x, "lay(2, -1, 1)", x.lay(2, -1, 1), BEYOND);
        due.is("asked() as it was", x.asked(), 9);
        x.at(2, 3);
        due.is("asked()", x.asked(), Integer.MAX_VALUE);
        x.at(2, 2);
        due.is("the place beside", x.asked(), 0);
    }

    private static void promise4At() {
        NeitherBare x = new NeitherBare();
        Due.fill(x, 0, 4, 5, 6);
        Due.fill(x, 1, 7);
        due.is("at(0, 1)", x.at(0, 1), 1);
        due.is("asked()", x.asked(), 5);
        due.is("at(1, 0)", x.at(1, 0), 1);
        due.is("asked()", x.asked(), 7);
        due.is("at(6, 0)", x.at(6, 0), BAD);
        due.is("at(-1, 0)", x.at(-1, 0), BAD);
        due.finding(x, "at(2, 0)", x.at(2, 0), NOTHING);
        due.finding(x, "at(2, 9)", x.at(2, 9), NOTHING);
        due.finding(x, "at(0, 3)", x.at(0, 3), BEYOND);
        due.finding(x, "at(0, -1)", x.at(0, -1), BEYOND);
        due.finding(x, "at(0, MIN)", x.at(0, Integer.MIN_VALUE), BEYOND);
        due.finding(x, "at(0, MAX)", x.at(0, Integer.MAX_VALUE), BEYOND);
        due.is("asked() as it was", x.asked(), 7);
    }

    private static void promise5Tear() {
        NeitherBare x = new NeitherBare();
        x.row(4, 2);
        x.lay(4, 0, 3);
        due.is("tear(4)", x.tear(4), 1);
        due.is("count(6)", x.count(6), 0);
        due.finding(x, "tear(4) again", x.tear(4), NOTHING);
        due.finding(x, "at(4, 0)", x.at(4, 0), NOTHING);
        due.is("tear(6)", x.tear(6), BAD);
        due.is("tear(-1)", x.tear(-1), BAD);
        x.row(4, 2);
        x.at(4, 0);
        due.is("asked() of the new ROW", x.asked(), 0);
    }

    private static void rowIs(NeitherBare x, int r, int... want) {
        for (int i = 0; i < want.length; i++) {
            x.at(r, i);
            due.is("place " + i + " of ROW " + r, x.asked(), want[i]);
        }
    }

    private static void promise6Copy() {
        NeitherBare x = new NeitherBare();
        Due.fill(x, 0, 1, 2, 3, 4, 5);
        Due.fill(x, 5, 9, 9, 9);
        due.is("copy(0, 3, 5, 1, 2)", x.copy(0, 3, 5, 1, 2), 1);
        rowIs(x, 5, 9, 4, 5);
        due.is("copy(0, 0, 0, 1, 4)", x.copy(0, 0, 0, 1, 4), 1);
        rowIs(x, 0, 1, 1, 2, 3, 4);
        due.is("copy(0, 2, 0, 0, 3)", x.copy(0, 2, 0, 0, 3), 1);
        rowIs(x, 0, 2, 3, 4, 3, 4);
        due.is("copy(0, 5, 5, 3, 0)", x.copy(0, 5, 5, 3, 0), 1);
        rowIs(x, 5, 9, 4, 5);
    }

    private static void promise6CopyRefused() {
        NeitherBare x = new NeitherBare();
        Due.fill(x, 0, 1, 2, 3);
        Due.fill(x, 1, 0, 0);
        int max = Integer.MAX_VALUE;
        due.is("copy(6, 0, 1, 0, 1)", x.copy(6, 0, 1, 0, 1), BAD);
        due.is("copy(0, 0, 6, 0, 1)", x.copy(0, 0, 6, 0, 1), BAD);
        due.is("copy(-1, 0, 1, 0, 1)", x.copy(-1, 0, 1, 0, 1), BAD);
        due.is("copy(0, 0, -1, 0, -1)", x.copy(0, 0, -1, 0, -1), BAD);
        due.finding(x, "copy(2, 0, 1, 0, -1)", x.copy(2, 0, 1, 0, -1), SIZE);
        due.finding(x, "copy(2, 9, 1, 0, 1)", x.copy(2, 9, 1, 0, 1), NOTHING);
        due.finding(x, "copy(0, 0, 2, 0, 1)", x.copy(0, 0, 2, 0, 1), NOTHING);
        due.finding(x, "copy(0, 2, 1, 0, 2)", x.copy(0, 2, 1, 0, 2), BEYOND);
        due.finding(x, "copy(0, 0, 1, 1, 2)", x.copy(0, 0, 1, 1, 2), BEYOND);
        due.finding(x, "copy(0, -1, 1, 0, 1)", x.copy(0, -1, 1, 0, 1), BEYOND);
        due.finding(x, "copy(0, 0, 1, -1, 1)", x.copy(0, 0, 1, -1, 1), BEYOND);
        due.finding(x, "copy(0, MAX, 1, 0, MAX)", x.copy(0, max, 1, 0, max), BEYOND);
        due.finding(x, "copy(0, 1, 1, 0, MAX)", x.copy(0, 1, 1, 0, max), BEYOND);
        due.finding(x, "copy(0, 4, 1, 0, 0)", x.copy(0, 4, 1, 0, 0), BEYOND);
        rowIs(x, 1, 0, 0);
    }

    private static void promise7Mean() {
        NeitherBare x = new NeitherBare();
        Due.fill(x, 0, 1, 2, 5);
        due.is("mean(0)", x.mean(0), 1);
        due.is("asked()", x.asked(), 2);
        Due.fill(x, 0, -1, -2, -5);
        due.is("mean(0)", x.mean(0), 1);
        due.is("asked(), cut", x.asked(), -2);
        Due.fill(x, 0, Integer.MAX_VALUE, Integer.MAX_VALUE, Integer.MAX_VALUE);
        x.mean(0);
        due.is("asked() of great ones", x.asked(), Integer.MAX_VALUE);
        due.is("mean(6)", x.mean(6), BAD);
        due.is("mean(-1)", x.mean(-1), BAD);
        due.finding(x, "mean(1)", x.mean(1), NOTHING);
        x.row(1, 0);
        due.finding(x, "mean(1) of none", x.mean(1), NOUGHT);
        due.is("asked() as it was", x.asked(), Integer.MAX_VALUE);
    }
}
