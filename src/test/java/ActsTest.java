/** Promises 28 to 31: act, trace, taken, count. */
public final class ActsTest {
    private static final Check C = new Check("acts");

    public static void main(String[] args) {
        refused();
        one();
        banker();
        girl();
        rector();
        lover();
        crowd();
        told();
        wraps();
        traceOfTheLatest();
        taken();
        count();
        C.end();
    }

    /** The second of two, so that its number is 1; v as told. */
    private static StruckWhile second(int kind, int v) {
        StruckWhile x = new StruckWhile();
        x.one(0, 0, 0);
        x.one(kind, v, 0);
        return x;
    }

    private static void acts(StruckWhile x, int act, int n, int due, int... bodies) {
        String call = "KIND " + x.of(1, 0) + ": act(1, " + act + ", " + n + ")";
        C.due(28, call, x.act(1, act, n), due);
        C.due(31, call + ", count(7)", x.count(7), bodies.length);
        for (int i = 0; i < bodies.length; i++) {
            C.due(29, call + ", trace(" + i + ")", x.trace(i), bodies[i]);
        }
        C.due(29, call + ", trace(-1)", x.trace(-1), -1);
        C.due(29, call + ", trace(" + bodies.length + ")", x.trace(bodies.length), -1);
        C.due(29, call + ", trace(20)", x.trace(20), -1);
    }

    private static void refused() {
        StruckWhile x = second(0, 3);
        C.due(29, "trace(0) of a new one", x.trace(0), -1);
        int[][] wrong = {{-1, 0}, {2, 0}, {0, -1}, {0, 3}};
        for (int[] call : wrong) {
            x.act(1, 2, 4);
            C.due(28, "act(" + call[0] + ", " + call[1] + ", 5)", x.act(call[0], call[1], 5), 0);
            C.due(29, "trace(0)", x.trace(0), -1);
            C.due(31, "count(7)", x.count(7), 0);
        }
    }

    private static void one() {
        StruckWhile x = second(0, 3);
        acts(x, 0, 5, 6, 10);
        acts(x, 1, 5, 3, 11, 10);
        acts(x, 2, 5, 6, 12, 11, 10);
        C.due(28, "act(0, 0, -7)", x.act(0, 0, -7), -7);
    }

    private static void banker() {
        StruckWhile x = second(1, 3);
        acts(x, 0, 5, 6, 10);
        acts(x, 1, 5, 5, 20, 11, 10);
        acts(x, 2, 5, 10, 12, 20, 11, 10);
    }

    private static void girl() {
        StruckWhile x = second(2, 3);
        acts(x, 0, 5, 16, 30, 10);
        acts(x, 1, 5, 13, 11, 30, 10);
        acts(x, 2, 5, 26, 12, 11, 30, 10);
    }

    /** rings(1) is 1 + 1 - 3. */
    private static void rector() {
        StruckWhile x = second(3, 3);
        acts(x, 0, 5, 6, 10);
        acts(x, 1, 5, 3, 11, 10);
        acts(x, 2, 5, 5, 40, 12, 11, 10, 11, 10);
    }

    /** rings(5): the BANKER's of 6: (-7 - 3) ^ 6. */
    private static void lover() {
        StruckWhile x = second(4, 3);
        acts(x, 0, 5, -6, 50, 10);
        acts(x, 1, 5, -10 ^ 6, 51, 20, 11, 50, 10);
        acts(x, 2, 5, (-10 ^ 6) * 2, 12, 51, 20, 11, 50, 10);
    }

    private static void crowd() {
        StruckWhile x = second(5, 3);
        acts(x, 0, 5, 16, 30, 10);
        acts(x, 1, 5, 13, 11, 30, 10);
        acts(x, 2, 5, 20, 60, 12, 11, 30, 10);
    }

    /** glows(5): 6 ^ 3; rings(5): 5 - 3 and 3; tells(5): twice 5, and rings(1): (2 ^ 3) - 3 and 3. */
    private static void told() {
        StruckWhile x = second(6, 3);
        acts(x, 0, 5, 5, 71, 10);
        acts(x, 1, 5, 5, 70, 11, 71, 10, 10);
        acts(x, 2, 5, 11, 40, 12, 70, 11, 71, 10, 10, 70, 11, 71, 10, 10);
    }

    private static void wraps() {
        acts(second(0, 0), 0, Integer.MAX_VALUE, Integer.MIN_VALUE, 10);
        acts(second(0, 0), 2, Integer.MAX_VALUE, 0, 12, 11, 10);
        acts(second(2, 0), 0, 1 << 30, (1 << 30) * 3 + 1, 30, 10);
        acts(second(5, 0), 2, Integer.MIN_VALUE, (Integer.MAX_VALUE * 3 + 1) * 2, 60, 12, 11, 30, 10);
        acts(second(4, 0), 0, Integer.MAX_VALUE, Integer.MIN_VALUE, 50, 10);
        acts(second(0, 9), 1, Integer.MIN_VALUE, Integer.MAX_VALUE - 7, 11, 10);
    }

    private static void traceOfTheLatest() {
        StruckWhile x = second(6, 3);
        x.act(1, 2, 5);
        acts(x, 0, 5, 5, 71, 10);
        C.due(29, "trace(5), of the one before", x.trace(5), -1);
        C.due(29, "trace(MIN)", x.trace(Integer.MIN_VALUE), -1);
        C.due(29, "trace(MAX)", x.trace(Integer.MAX_VALUE), -1);
    }

    private static void taken() {
        int[][] over = {{0}, {0, 1}, {0, 2}, {0, 3}, {0, 1, 4}, {0, 2, 5}, {0, 3, 6}};
        for (int kind = 0; kind < 7; kind++) {
            StruckWhile x = second(kind, 0);
            for (int k = 0; k < 7; k++) {
                int due = -12;
                for (int above : over[kind]) {
                    due = above == k ? kind : due;
                }
                C.due(30, "KIND " + kind + ": taken(1, " + k + ")", x.taken(1, k), due);
            }
            C.due(30, "taken(9, 7)", x.taken(9, 7), -2);
            C.due(30, "taken(1, -1)", x.taken(1, -1), -2);
            C.due(30, "taken(2, 0)", x.taken(2, 0), -11);
            C.due(30, "taken(-1, 6)", x.taken(-1, 6), -11);
        }
    }

    private static void count() {
        StruckWhile x = second(6, 0);
        x.one(0, 0, 0);
        x.work(5, 5);
        Check.square(x, "spark 1");
        Check.square(x, "spark 2");
        for (int i = 0; i < 4; i++) {
            x.see(0, 0, true);
        }
        for (int i = 0; i < 5; i++) {
            x.plan(0, 0);
        }
        for (int i = 0; i < 6; i++) {
            x.book(0, 0);
        }
        for (int i = 0; i < 7; i++) {
            x.feed(0);
        }
        x.act(1, 2, 0);
        int[] due = {3, 1, 2, 4, 5, 6, 7, 12};
        for (int what = 0; what < 8; what++) {
            C.due(31, "count(" + what + ")", x.count(what), due[what]);
        }
        C.due(31, "count(-1)", x.count(-1), -2);
        C.due(31, "count(8)", x.count(8), -2);
    }
}
