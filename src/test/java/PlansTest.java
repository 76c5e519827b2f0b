/** Promises 21 to 24: plan, ends, book, looked. */
public final class PlansTest {
    private static final Check C = new Check("plans and books");

    public static void main(String[] args) {
        plan();
        planOfNobody();
        ends();
        endsWithAway();
        endsOfTenRows();
        endsChangesNothing();
        book();
        looked();
        C.end();
    }

    private static void plan() {
        StruckWhile x = Check.ones(5, 6);
        x.work(5, 5);
        C.due(21, "plan(-1, 7), empty", x.plan(-1, 7), 0);
        C.due(21, "plan(0, -99)", x.plan(0, -99), 1);
        C.due(21, "plan(1, 1)", x.plan(1, 1), 2);
        C.due(21, "plan(2, 0)", x.plan(2, 0), 3);
        C.due(21, "plan(3, 0)", x.plan(3, 0), 4);
        int[][] wrong = {{-2, 0}, {4, 0}, {1, -1}, {1, 2}, {2, -1}, {2, 2}, {3, -1}, {3, 1}};
        for (int[] call : wrong) {
            C.due(21, "plan(" + call[0] + ", " + call[1] + ")", x.plan(call[0], call[1]), -1);
        }
        C.due(21, "count(4)", x.count(4), 4);
        for (int i = 5; i <= 10; i++) {
            C.due(21, "plan(0, 0)", x.plan(0, 0), i);
        }
        C.due(21, "plan(0, 0), full", x.plan(0, 0), -4);
        C.due(21, "plan(3, 1), full", x.plan(3, 1), -1);
        C.due(21, "count(4)", x.count(4), 10);
        C.due(21, "plan(-1, 0)", x.plan(-1, 0), 0);
        C.due(21, "count(4)", x.count(4), 0);
    }

    private static void planOfNobody() {
        StruckWhile x = new StruckWhile();
        C.due(21, "plan(1, 0)", x.plan(1, 0), -1);
        C.due(21, "plan(2, 0)", x.plan(2, 0), -1);
        C.due(21, "plan(3, 0)", x.plan(3, 0), -1);
        C.due(21, "plan(0, 0)", x.plan(0, 0), 1);
    }

    private static void ends() {
        StruckWhile x = Check.ones(40, 30);
        x.work(40, 5);
        x.work(30, 5);
        C.due(22, "ends(0)", x.ends(0), 70);
        C.due(22, "ends(1)", x.ends(1), 0);
        x.plan(3, 1);
        x.plan(0, 0);
        C.due(22, "ends(0)", x.ends(0), 30);
        C.due(22, "ends(1)", x.ends(1), 2);
        x.plan(0, 0);
        C.due(22, "ends(0), DONE", x.ends(0), 30);
        x.plan(3, 0);
        x.plan(0, 0);
        C.due(22, "ends(0)", x.ends(0), 0);
        C.due(22, "ends(1)", x.ends(1), 2);
        x.heat(1, 40);
        C.due(22, "ends(1)", x.ends(1), 3);
        C.due(22, "ends(-1)", x.ends(-1), -1);
        C.due(22, "ends(2)", x.ends(2), -1);
        x.plan(-1, 0);
        C.due(22, "ends(0), empty", x.ends(0), 80);
    }

    private static void endsWithAway() {
        StruckWhile x = Check.ones(40, 30, 20);
        x.work(999, 5);
        x.anvil(0);
        x.plan(0, 0);
        x.plan(1, 1);
        x.plan(0, 0);
        C.due(22, "ends(0), 1 is AWAY", x.ends(0), 30);
        x.plan(2, 1);
        x.plan(0, 0);
        C.due(22, "ends(0), 1 is not AWAY", x.ends(0), 0);
        x.away(2, true);
        C.due(22, "ends(0), 2 is AWAY", x.ends(0), 20);
    }

    private static void endsOfTenRows() {
        StruckWhile x = Check.ones(3);
        Check.square(x, "heat 5 p=0");
        for (int i = 1; i <= 10; i++) {
            x.plan(0, i);
            C.due(22, "ends(0) behind " + i, x.ends(0), 3 + 5 * i);
        }
        C.due(22, "told(0)", x.told(0), 0);
    }

    private static void endsChangesNothing() {
        StruckWhile x = Check.ones(40, 30);
        x.work(40, 5);
        x.work(50, 5);
        x.anvil(1);
        x.plan(1, 0);
        x.plan(3, 0);
        x.plan(0, 0);
        C.due(22, "ends(0)", x.ends(0), 40);
        C.due(22, "told(0)", x.told(0), 0);
        C.due(22, "told(2)", x.told(2), 1);
        C.due(22, "told(5)", x.told(5), 70);
        C.due(22, "of(0, 3)", x.of(0, 3), 0);
        C.due(22, "piece(0, 2)", x.piece(0, 2), 0);
        C.due(22, "count(4)", x.count(4), 3);
    }

    private static void book() {
        StruckWhile x = Check.ones(5, 6);
        C.due(23, "book(2, 100)", x.book(2, 100), -1);
        C.due(23, "book(-2, 0)", x.book(-2, 0), -1);
        C.due(23, "book(0, 100)", x.book(0, 100), -2);
        C.due(23, "book(0, -1)", x.book(0, -1), -2);
        C.due(23, "book(-1, 100)", x.book(-1, 100), 0);
        for (int i = 1; i <= 8; i++) {
            C.due(23, "book(1, 99)", x.book(1, 99), i);
        }
        C.due(23, "book(1, 0), full", x.book(1, 0), -4);
        C.due(23, "book(1, 100), full", x.book(1, 100), -2);
        C.due(23, "book(2, 0), full", x.book(2, 0), -1);
        C.due(23, "count(5)", x.count(5), 8);
        C.due(23, "book(-1, 0)", x.book(-1, 0), 0);
        C.due(23, "count(5)", x.count(5), 0);
    }

    private static void looked() {
        StruckWhile x = Check.ones(5, 6, 0);
        C.due(24, "looked(), empty", x.looked(), -5);
        x.book(0, 5);
        x.book(1, 6);
        x.book(2, 0);
        C.due(24, "looked()", x.looked(), -5);
        x.book(1, 7);
        C.due(24, "looked()", x.looked(), 3);
        x.heat(1, 7);
        C.due(24, "looked()", x.looked(), 1);
        x.heat(0, 4);
        C.due(24, "looked()", x.looked(), 0);
        x.book(-1, 0);
        C.due(24, "looked(), emptied", x.looked(), -5);
    }
}
