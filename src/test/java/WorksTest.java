/** Promises 6 to 8: work, piece, anvil. */
public final class WorksTest {
    private static final Check C = new Check("works");

    public static void main(String[] args) {
        work();
        piece();
        ready();
        readyLeavesAllAsItIs();
        anvil();
        C.end();
    }

    private static void work() {
        StruckWhile x = new StruckWhile();
        C.due(6, "work(0, 0)", x.work(0, 0), -2);
        C.due(6, "work(1000, 0)", x.work(1000, 0), -2);
        C.due(6, "work(1, -1)", x.work(1, -1), -2);
        C.due(6, "work(1, 61)", x.work(1, 61), -2);
        C.due(6, "count(1)", x.count(1), 0);
        C.due(6, "work(1, 0)", x.work(1, 0), 0);
        C.due(6, "work(999, 60)", x.work(999, 60), 1);
        C.due(6, "work(5, 6)", x.work(5, 6), 2);
        C.due(6, "work(7, 8)", x.work(7, 8), 3);
        C.due(6, "work(1, 1)", x.work(1, 1), -4);
        C.due(6, "work(0, 1)", x.work(0, 1), -2);
        C.due(6, "work(1, 61)", x.work(1, 61), -2);
        C.due(6, "count(1)", x.count(1), 4);
    }

    private static void piece() {
        StruckWhile x = Check.ones(30);
        x.work(20, 6);
        x.work(50, 60);
        x.anvil(0);
        x.pass(1);
        int[][] due = {{20, 6, 30, 1, 0}, {50, 60, 0, 0, -5}};
        for (int w = 0; w < 2; w++) {
            for (int what = 0; what < 5; what++) {
                C.due(7, "piece(" + w + ", " + what + ")", x.piece(w, what), due[w][what]);
            }
        }
        C.due(7, "piece(-1, 0)", x.piece(-1, 0), -1);
        C.due(7, "piece(2, 0)", x.piece(2, 0), -1);
        C.due(7, "piece(0, -1)", x.piece(0, -1), -1);
        C.due(7, "piece(0, 5)", x.piece(0, 5), -1);
    }

    /** Two who are 0 at first and 1 hotter each MINUTE give 0 in the first MINUTE, and by turns 1 in each later one. */
    private static void ready() {
        StruckWhile x = Check.ones(0, 0);
        Check.square(x, "heat 1 p<9");
        x.work(59, 0);
        x.work(60, 0);
        x.work(1, 0);
        C.due(7, "piece(0, 4)", x.piece(0, 4), 60);
        C.due(7, "piece(1, 4)", x.piece(1, 4), -5);
        C.due(7, "piece(2, 4)", x.piece(2, 4), 2);
        StruckWhile y = Check.ones(40, 60);
        y.work(60, 0);
        y.work(61, 0);
        y.work(100, 0);
        y.work(101, 0);
        int[] due = {1, 2, 2, -5};
        for (int w = 0; w < 4; w++) {
            C.due(7, "two: piece(" + w + ", 4)", y.piece(w, 4), due[w]);
        }
        y.away(1, true);
        C.due(7, "one AWAY: piece(0, 4)", y.piece(0, 4), -5);
    }

    private static void readyLeavesAllAsItIs() {
        StruckWhile x = Check.ones(40, 60);
        x.work(60, 0);
        x.work(90, 0);
        x.anvil(1);
        x.piece(0, 4);
        C.due(7, "told(0)", x.told(0), 0);
        C.due(7, "told(2)", x.told(2), 1);
        C.due(7, "told(5)", x.told(5), 100);
        C.due(7, "piece(0, 2)", x.piece(0, 2), 0);
    }

    private static void anvil() {
        StruckWhile x = new StruckWhile();
        C.due(8, "no WORKS: anvil(0)", x.anvil(0), -1);
        C.due(8, "no WORKS: anvil(-1)", x.anvil(-1), -5);
        x.work(9, 9);
        x.work(9, 9);
        C.due(8, "anvil(1)", x.anvil(1), -5);
        C.due(8, "anvil(2)", x.anvil(2), -1);
        C.due(8, "anvil(-2)", x.anvil(-2), -1);
        C.due(8, "told(2)", x.told(2), 1);
        C.due(8, "anvil(0)", x.anvil(0), 1);
        C.due(8, "anvil(0) again", x.anvil(0), 0);
        C.due(8, "anvil(-1)", x.anvil(-1), 0);
        C.due(8, "told(2)", x.told(2), -5);
    }
}
