/** Promises 1 to 5 and 9: a new object, one, of, heat, away, row. */
public final class PeopleTest {
    private static final Check C = new Check("people");

    public static void main(String[] args) {
        newObject();
        one();
        oneRefused();
        of();
        heat();
        away();
        row();
        riseOfEachKind();
        riseBelow0();
        C.end();
    }

    private static void newObject() {
        StruckWhile x = new StruckWhile();
        for (int what = 0; what <= 7; what++) {
            C.due(1, "count(" + what + ")", x.count(what), 0);
        }
        C.due(1, "told(0)", x.told(0), 0);
        C.due(1, "told(1)", x.told(1), 80);
        C.due(1, "told(2)", x.told(2), -5);
        C.due(1, "told(3)", x.told(3), 0);
        C.due(1, "told(4)", x.told(4), -5);
        C.due(1, "told(5)", x.told(5), 0);
        C.due(1, "of(0, 0)", x.of(0, 0), -10001);
        C.due(1, "piece(0, 0)", x.piece(0, 0), -1);
        C.due(1, "undo()", x.undo(), -3);
        for (int tape = 0; tape < 6; tape++) {
            C.due(1, "item(" + tape + ", 0, 1)", x.item(tape, 0, 1), -11);
        }
    }

    private static void one() {
        StruckWhile x = new StruckWhile();
        for (int kind = 0; kind < 6; kind++) {
            C.due(2, "one(" + kind + ", 9, 99)", x.one(kind, 9, 99), kind);
        }
        C.due(2, "a seventh", x.one(6, 0, 0), -4);
        C.due(2, "count(0)", x.count(0), 6);
        C.due(2, "of(5, 0)", x.of(5, 0), 5);
        x = new StruckWhile();
        C.due(2, "one(6, 0, 0)", x.one(6, 0, 0), 0);
        C.due(2, "of(0, 0)", x.of(0, 0), 6);
        C.due(2, "of(0, 3)", x.of(0, 3), 0);
    }

    private static void oneRefused() {
        StruckWhile x = new StruckWhile();
        C.due(2, "one(-1, 10, 100)", x.one(-1, 10, 100), -1);
        C.due(2, "one(7, 0, 0)", x.one(7, 0, 0), -1);
        C.due(2, "one(0, -1, 0)", x.one(0, -1, 0), -2);
        C.due(2, "one(0, 10, 0)", x.one(0, 10, 0), -2);
        C.due(2, "one(0, 0, -1)", x.one(0, 0, -1), -2);
        C.due(2, "one(0, 0, 100)", x.one(0, 0, 100), -2);
        C.due(2, "count(0)", x.count(0), 0);
        x = Check.ones(1, 2, 3, 4, 5, 6);
        C.due(2, "full: one(7, 0, 0)", x.one(7, 0, 0), -1);
        C.due(2, "full: one(0, 10, 0)", x.one(0, 10, 0), -2);
        C.due(2, "full: one(0, 0, 100)", x.one(0, 0, 100), -2);
        C.due(2, "full: one(0, 0, 0)", x.one(0, 0, 0), -4);
    }

    private static void of() {
        StruckWhile x = new StruckWhile();
        x.one(4, 7, 50);
        x.one(0, 1, 49);
        x.one(2, 3, 99);
        x.away(2, true);
        int[][] due = {{4, 7, 50, 0, 4, 0}, {0, 1, 49, 0, 0, 1}, {2, 3, 99, 1, 5, 0}};
        for (int p = 0; p < 3; p++) {
            for (int what = 0; what < 6; what++) {
                C.due(3, "of(" + p + ", " + what + ")", x.of(p, what), due[p][what]);
            }
        }
        x.away(2, false);
        C.due(3, "of(1, 5), both hot", x.of(1, 5), 2);
        x.away(0, true);
        C.due(3, "of(1, 5), one AWAY", x.of(1, 5), 1);
        int[][] wrong = {{-1, 0}, {3, 0}, {0, -1}, {0, 6}, {Integer.MIN_VALUE, 0}, {Integer.MAX_VALUE, 0}};
        for (int[] call : wrong) {
            C.due(3, "of(" + call[0] + ", " + call[1] + ")", x.of(call[0], call[1]), -10001);
        }
    }

    private static void heat() {
        StruckWhile x = Check.ones(5, 6);
        C.due(4, "heat(1, 99)", x.heat(1, 99), 6);
        C.due(4, "heat(1, 0)", x.heat(1, 0), 99);
        C.due(4, "heat(1, 100)", x.heat(1, 100), -2);
        C.due(4, "heat(1, -1)", x.heat(1, -1), -2);
        C.due(4, "heat(2, 100)", x.heat(2, 100), -1);
        C.due(4, "heat(-1, 0)", x.heat(-1, 0), -1);
        C.due(4, "of(1, 2)", x.of(1, 2), 0);
        C.due(4, "of(0, 2)", x.of(0, 2), 5);
    }

    private static void away() {
        StruckWhile x = Check.ones(5, 6);
        C.due(5, "away(1, true)", x.away(1, true), 0);
        C.due(5, "away(1, true) again", x.away(1, true), 1);
        C.due(5, "of(1, 3)", x.of(1, 3), 1);
        C.due(5, "of(0, 3)", x.of(0, 3), 0);
        C.due(5, "away(1, false)", x.away(1, false), 1);
        C.due(5, "away(1, false) again", x.away(1, false), 0);
        C.due(5, "of(1, 3)", x.of(1, 3), 0);
        C.due(5, "away(2, true)", x.away(2, true), -1);
        C.due(5, "away(-1, true)", x.away(-1, true), -1);
    }

    private static void row() {
        StruckWhile x = new StruckWhile();
        x.one(6, 0, 0);
        x.one(3, 0, 0);
        x.one(6, 0, 0);
        for (int part = 0; part < 4; part++) {
            C.due(9, "row(2, " + part + ", " + (part + 6) + ")", x.row(2, part, part + 6), 0);
        }
        C.due(9, "row(2, 3, 0)", x.row(2, 3, 0), 9);
        C.due(9, "row(0, 3, 1)", x.row(0, 3, 1), 0);
        C.due(9, "row(-1, 0, 10)", x.row(-1, 0, 10), -1);
        C.due(9, "row(3, 0, 0)", x.row(3, 0, 0), -1);
        C.due(9, "row(0, -1, 10)", x.row(0, -1, 10), -1);
        C.due(9, "row(1, 4, 10)", x.row(1, 4, 10), -1);
        C.due(9, "row(1, 0, 10)", x.row(1, 0, 10), -2);
        C.due(9, "row(0, 0, -1)", x.row(0, 0, -1), -2);
        C.due(9, "row(0, 0, 10)", x.row(0, 0, 10), -2);
        C.due(9, "row(1, 0, 9)", x.row(1, 0, 9), -3);
        int[] rises = {6, 7, 8, 0, 6};
        for (int minute = 0; minute < rises.length; minute++) {
            C.due(9, "of(2, 4) at MINUTE " + minute, x.of(2, 4), rises[minute]);
            x.pass(1);
        }
    }

    /** A SUM of 7 for each; those next to the CROWD are hot. */
    private static void riseOfEachKind() {
        StruckWhile x = new StruckWhile();
        x.one(0, 4, 50);
        x.one(1, 4, 49);
        x.one(2, 4, 50);
        x.one(5, 4, 0);
        x.one(4, 4, 50);
        x.one(6, 4, 50);
        x.row(5, 0, 9);
        x.row(5, 1, 2);
        C.due(11, "square", Check.square(x, "heat 7 p<9"), 0);
        int[] at0 = {7, 7, 12, 16, 8, 12};
        for (int p = 0; p < 6; p++) {
            C.due(3, "of(" + p + ", 4) at MINUTE 0", x.of(p, 4), at0[p]);
        }
        x.heat(1, 50);
        C.due(3, "of(1, 4), hot", x.of(1, 4), 4);
        x.heat(4, 49);
        C.due(3, "of(4, 4), not hot", x.of(4, 4), 11);
        C.due(3, "of(3, 4), one beside not hot", x.of(3, 4), 14);
        x.away(2, true);
        C.due(3, "of(3, 4), one AWAY", x.of(3, 4), 12);
        x.away(2, false);
        x.heat(4, 50);
        for (int p = 0; p < 6; p++) {
            x.away(p, true);
        }
        x.pass(1);
        int[] at1 = {7, 4, 7, 7, 8, 5};
        for (int p = 0; p < 6; p++) {
            C.due(3, "of(" + p + ", 4) at MINUTE 1", x.of(p, 4), at1[p]);
        }
        x.pass(2);
        C.due(3, "of(2, 4) at MINUTE 3", x.of(2, 4), 12);
    }

    private static void riseBelow0() {
        StruckWhile x = new StruckWhile();
        x.one(0, 0, 50);
        x.one(1, 0, 50);
        x.one(3, 0, 50);
        x.one(6, 0, 50);
        C.due(11, "square", Check.square(x, "heat 2 p<9;calm 9 p<9"), 0);
        int[] due = {-7, -10, -3, -3};
        for (int p = 0; p < 4; p++) {
            C.due(3, "of(" + p + ", 4)", x.of(p, 4), due[p]);
        }
    }
}
