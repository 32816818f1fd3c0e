/** Promises 16 to 20: what is done, undone, kept. */
final class DeedsTest {
    private static final int BAD = -1, FULL = -2, FINDING = -3, STATE = -4, NOTHING = 1;
    private static final Due due = new Due("DeedsTest");

    public static void main(String[] args) {
        promise16Strike();
        promise17Move();
        promise16And17Full();
        promise18Undo();
        promise19Keep();
        promise20On();
        due.end();
    }

    private static void promise16Strike() {
        NeitherBare x = Due.court("t00000 c0 c1 c2");
        due.is("strike(1, 1)", x.strike(1, 1), 2);
        due.is("strike(0, 1)", x.strike(0, 1), 1);
        due.is("strike(1, 0)", x.strike(1, 0), 2);
        due.is("strike(1, 0) again", x.strike(1, 0), STATE);
        due.is("strike(0, 1) again", x.strike(0, 1), STATE);
        due.is("strike(2, 0) at first", x.strike(2, 0), STATE);
        due.is("DEEDS", x.count(3), 3);
        due.is("strike(3, 1)", x.strike(3, 1), BAD);
        due.is("strike(-1, 1)", x.strike(-1, 1), BAD);
        due.is("strike(2, 2)", x.strike(2, 2), BAD);
        due.is("strike(2, -1)", x.strike(2, -1), BAD);
        due.is("ON", x.count(2), 2);
        due.is("strike(2, 1)", x.strike(2, 1), 1);
        due.is("a COURT without CLAUSES", Due.court("t00000").strike(0, 1), BAD);
    }

    private static void promise17Move() {
        NeitherBare x = new NeitherBare();
        due.is("move(0, 0, 3)", x.move(0, 0, 3), 1);
        due.is("move(0, 0, 4)", x.move(0, 0, 4), STATE);
        due.is("move(0, 1, 3)", x.move(0, 1, 3), STATE);
        due.is("move(0, 1, 5)", x.move(0, 1, 5), 4);
        due.is("move(0, 0, 4)", x.move(0, 0, 4), 3);
        due.is("move(0, 0, 4) again", x.move(0, 0, 4), STATE);
        due.is("move(0, 1, 5) again", x.move(0, 1, 5), STATE);
        due.is("move(1, 0, 0)", x.move(1, 0, 0), 1);
        due.is("move(1, 1, 1)", x.move(1, 1, 1), 4);
        due.is("move(2, 0, 5)", x.move(2, 0, 5), BAD);
        due.is("move(2, 0, -1)", x.move(2, 0, -1), BAD);
        due.is("move(2, 1, 0)", x.move(2, 1, 0), BAD);
        due.is("move(2, 1, 6)", x.move(2, 1, 6), BAD);
        due.is("move(4, 0, 0)", x.move(4, 0, 0), BAD);
        due.is("move(-1, 0, 0)", x.move(-1, 0, 0), BAD);
        due.is("move(2, 2, 3)", x.move(2, 2, 3), BAD);
        due.is("move(2, -1, 0)", x.move(2, -1, 0), BAD);
        due.is("DEEDS", x.count(3), 5);
        due.is("border(0, 0)", x.border(0, 0), 4);
        due.is("border(1, 1)", x.border(1, 1), 1);
        due.is("border(2, 0)", x.border(2, 0), 1);
    }

    private static void promise16And17Full() {
        NeitherBare x = Due.court("t00000 c0");
        for (int i = 0; i < 20; i++) {
            due.is("strike", x.strike(0, 1 - i % 2), i % 2);
            due.is("move", x.move(0, 1, 5 - i % 2), 4 + i % 2);
        }
        due.is("DEEDS", x.count(3), 40);
        due.is("strike when FULL", x.strike(0, 1), FULL);
        due.is("move when FULL", x.move(0, 1, 5), FULL);
        due.is("STATE ahead of FULL", x.strike(0, 0), STATE);
        due.is("STATE ahead of FULL", x.move(0, 1, 4), STATE);
        due.is("STATE ahead of FULL", x.move(0, 0, 4), STATE);
        due.is("BAD ahead of all", x.move(0, 0, 5), BAD);
        due.is("BAD ahead of all", x.strike(1, 1), BAD);
        due.is("keep(0) of 40", x.keep(0), 40);
        due.is("undo(39)", x.undo(39), 1);
        due.is("border as it was", x.border(0, 1), 5);
        due.is("strike again", x.strike(0, 1), 0);
        due.is("FULL again", x.move(0, 1, 4), FULL);
        due.is("on(0)", x.on(0), 40);
        due.is("undo(0) of 40", x.undo(0), 40);
        due.is("border(0, 1)", x.border(0, 1), 4);
        due.is("ON", x.count(2), 1);
    }

    private static void promise18Undo() {
        NeitherBare x = Due.court("t00000 c0 c1");
        due.is("undo(0) of none", x.undo(0), 0);
        due.is("undo(1) of none", x.undo(1), BAD);
        x.move(1, 0, 0);
        x.strike(0, 1);
        x.move(1, 0, 2);
        x.strike(0, 0);
        x.move(1, 0, 3);
        due.is("undo(-1)", x.undo(-1), BAD);
        due.is("undo(6)", x.undo(6), BAD);
        due.is("undo(5)", x.undo(5), 0);
        due.is("undo(3)", x.undo(3), 2);
        due.is("DEEDS", x.count(3), 3);
        due.is("ON", x.count(2), 1);
        due.is("border(1, 0)", x.border(1, 0), 2);
        due.is("undo(0)", x.undo(0), 3);
        due.is("DEEDS", x.count(3), 0);
        due.is("ON", x.count(2), 2);
        due.is("border(1, 0)", x.border(1, 0), 1);
        undoOfLastOnes();
    }

    private static void undoOfLastOnes() {
        NeitherBare x = Due.court("t00000 c0 c1 c2 c3 u0 u1 u2 u3");
        x.strike(7, 1);
        x.move(3, 1, 5);
        x.strike(1, 1);
        x.move(0, 0, 0);
        x.strike(7, 0);
        due.is("undo(1)", x.undo(1), 4);
        x.clause(7, 3);
        due.is("CLAUSE 7 is STRUCK again", x.asked(), 0);
        x.clause(1, 3);
        due.is("CLAUSE 1 is ON again", x.asked(), 1);
        due.is("border(3, 1)", x.border(3, 1), 4);
        due.is("border(0, 0)", x.border(0, 0), 1);
        due.is("undo(0)", x.undo(0), 1);
        due.is("ON", x.count(2), 8);
    }

    private static void promise19Keep() {
        NeitherBare x = new NeitherBare();
        due.is("keep(0) without THINGS", x.keep(0), STATE);
        due.is("keep(3) without THINGS", x.keep(3), BAD);
        x = Due.court("t00000 c0");
        due.is("keep(0)", x.keep(0), 0);
        x.strike(0, 1);
        due.is("keep(2)", x.keep(2), 1);
        due.is("count(8)", x.count(8), 2);
        due.is("keep(0) again", x.keep(0), 1);
        due.is("count(8)", x.count(8), 2);
        due.is("keep(3)", x.keep(3), BAD);
        due.is("keep(-1)", x.keep(-1), BAD);
    }

    private static void promise20On() {
        NeitherBare x = Due.court("t00000 c0 c1");
        x.strike(0, 1);
        x.move(2, 1, 3);
        x.keep(1);
        x.undo(0);
        x.strike(1, 1);
        x.keep(0);
        due.is("on(1)", x.on(1), 2);
        due.is("border(2, 1)", x.border(2, 1), 3);
        x.clause(0, 3);
        due.is("CLAUSE 0 is STRUCK", x.asked(), 0);
        x.clause(1, 3);
        due.is("CLAUSE 1 is ON", x.asked(), 1);
        due.is("undo(0) of what was kept", x.undo(0), 2);
        due.is("border(2, 1)", x.border(2, 1), 4);
        due.is("ON", x.count(2), 2);
        due.is("on(1) again", x.on(1), 2);
        due.is("on(0)", x.on(0), 1);
        x.clause(1, 3);
        due.is("CLAUSE 1 is STRUCK", x.asked(), 0);
        due.is("border(2, 1)", x.border(2, 1), 4);
        due.is("kept stay", x.count(8), 2);
        due.is("on(2)", x.on(2), FINDING);
        due.is("finding()", x.finding(), NOTHING);
        due.is("on(3)", x.on(3), BAD);
        due.is("on(-1)", x.on(-1), BAD);
    }
}
