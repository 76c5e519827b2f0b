/** Edges of promises 28 to 31: act, trace, taken, count. */
public final class ActsEdgesTest extends Edges {
    private static final int MIN = Integer.MIN_VALUE, MAX = Integer.MAX_VALUE;
    private static final int GLOWS = 0, RINGS = 1, TELLS = 2;

    public static void main(String[] args) throws Exception {
        run(ActsEdgesTest.class, 28, 29, 30, 31);
    }

    /** The second of two, so that its number is 1. */
    private static StruckWhile second(int kind, int v) {
        StruckWhile x = Check.ones(0);
        x.one(kind, v, 0);
        return x;
    }

    // ---- 28: act

    static void promise28_no_such_one_is_0_and_no_TRACE() {
        for (int person : new int[] {MIN, -1, 2, MAX}) {
            StruckWhile x = second(6, 3);
            x.act(1, TELLS, 5);
            due(0, x.act(person, RINGS, 5));
            due(-1, x.trace(0));
        }
        due(0, new StruckWhile().act(0, GLOWS, 5));
        due(0, Stands.full().act(6, GLOWS, 5));
    }

    static void promise28_no_such_act_is_0_and_no_TRACE() {
        for (int act : new int[] {MIN, -1, 3, MAX}) {
            StruckWhile x = second(6, 3);
            x.act(1, TELLS, 5);
            due(0, x.act(1, act, 5));
            due(-1, x.trace(0));
        }
    }

    static void promise28_an_act_that_is_none_changes_nothing_but_THE_TRACE() {
        changesNothing(0, ActsEdgesTest::someWithoutATrace, x -> x.act(6, GLOWS, 5));
        changesNothing(0, ActsEdgesTest::someWithoutATrace, x -> x.act(-1, TELLS, 5));
        changesNothing(0, ActsEdgesTest::someWithoutATrace, x -> x.act(0, 3, 5));
    }

    private static StruckWhile someWithoutATrace() {
        StruckWhile x = Stands.some();
        x.act(9, 9, 9);
        return x;
    }

    static void promise28_an_act_changes_nothing_but_THE_TRACE() {
        for (int act = GLOWS; act <= TELLS; act++) {
            int asked = act;
            StruckWhile x = Stands.some();
            for (int p = 0; p < 4; p++) {
                x.act(p, asked, 5);
            }
            x.act(9, 9, 9);
            holds("all is alike", Sight.of(x).equals(Sight.of(someWithoutATrace())));
        }
    }

    static void promise28_the_first_one_and_the_last() {
        StruckWhile x = Check.ones(0, 0, 0, 0, 0, 0);
        due(7, x.act(0, GLOWS, 7));
        due(12, x.act(5, GLOWS, 7));
    }

    static void promise28_the_first_act_and_the_last() {
        due(8, second(0, 3).act(1, GLOWS, 7));
        due(10, second(0, 3).act(1, TELLS, 7));
    }

    static void promise28_of_one_AWAY_too() {
        StruckWhile x = second(0, 3);
        x.away(1, true);
        due(8, x.act(1, GLOWS, 7));
    }

    static void promise28_a_KIND_without_a_body_has_that_of_the_next_above() {
        int[][] due = {{10, 11, 12}, {10, 20, 12}, {30, 11, 12}, {10, 11, 40}, {50, 51, 12}, {30, 11, 60}, {71, 70, 40}};
        for (int kind = 0; kind <= 6; kind++) {
            for (int act = GLOWS; act <= TELLS; act++) {
                StruckWhile x = second(kind, 0);
                x.act(1, act, 0);
                due(due[kind][act], x.trace(0));
            }
        }
    }

    static void promise28_glows_of_ONE_wraps() {
        due(MIN, second(0, 0).act(1, GLOWS, MAX));
        due(MIN + 1, second(0, 0).act(1, GLOWS, MIN));
    }

    static void promise28_rings_of_ONE_wraps() {
        due(MAX - 7, second(0, 9).act(1, RINGS, MIN));
        due(MIN, second(0, 0).act(1, RINGS, MAX));
    }

    static void promise28_tells_of_ONE_wraps() {
        due(MIN, Stands.alone(0, 0, 0).act(0, TELLS, 1 << 30));
        due(-2, Stands.alone(0, 0, 0).act(0, TELLS, MAX));
        due(0, Stands.alone(0, 0, 0).act(0, TELLS, MIN));
    }

    static void promise28_rings_of_a_BANKER_at_the_bounds() {
        due(MAX - 6, Stands.alone(1, 0, 0).act(0, RINGS, MAX));
        due(MIN + 6, Stands.alone(1, 0, 0).act(0, RINGS, MIN));
        due(-7, Stands.alone(1, 0, 0).act(0, RINGS, -1));
    }

    static void promise28_glows_of_a_GIRL_wraps() {
        due(MAX - 2, Stands.alone(2, 0, 0).act(0, GLOWS, MAX));
        due(MIN, Stands.alone(2, 0, 0).act(0, GLOWS, MIN));
        due(-1073741824, Stands.alone(2, 0, 0).act(0, GLOWS, 1 << 30));
    }

    /** By v 9: (x - 9) * 2 and, of rings(1), 8 less. */
    static void promise28_tells_of_a_RECTOR_wraps() {
        due(MAX - 7, Stands.alone(3, 9, 0).act(0, TELLS, 9 - (1 << 30)));
        due(-26, Stands.alone(3, 9, 0).act(0, TELLS, MIN));
    }

    static void promise28_glows_of_a_LOVER_wraps() {
        due(MIN, Stands.alone(4, 0, 0).act(0, GLOWS, MIN));
        due(MIN + 1, Stands.alone(4, 0, 0).act(0, GLOWS, MAX));
        due(MIN, second(4, 0).act(1, GLOWS, MAX));
    }

    static void promise28_rings_of_a_LOVER_wraps() {
        due(MIN + 6, Stands.alone(4, 0, 0).act(0, RINGS, MAX));
    }

    static void promise28_tells_of_a_CROWD_wraps() {
        due(-4, second(5, 0).act(1, TELLS, MIN));
    }

    static void promise28_rings_of_a_TOLD_wraps() {
        due(MIN + 1, Stands.alone(6, 0, 0).act(0, RINGS, MAX));
    }

    static void promise28_glows_of_a_TOLD_at_the_bounds() {
        due(MIN + 9, Stands.alone(6, 9, 0).act(0, GLOWS, MIN));
        due(MAX - 9, Stands.alone(6, 9, 0).act(0, GLOWS, MAX));
    }

    // ---- 29: trace

    static void promise29_no_TRACE_yet() {
        StruckWhile x = second(0, 0);
        due(-1, x.trace(0));
        due(-1, x.trace(-1));
    }

    static void promise29_0_is_the_first_and_what_is_below_is_NONE() {
        StruckWhile x = second(0, 0);
        x.act(1, TELLS, 5);
        due(12, x.trace(0));
        due(-1, x.trace(-1));
        due(-1, x.trace(MIN));
    }

    static void promise29_behind_the_last_is_NONE() {
        StruckWhile x = second(0, 0);
        x.act(1, TELLS, 5);
        due(10, x.trace(2));
        due(-1, x.trace(3));
        due(-1, x.trace(19));
        due(-1, x.trace(20));
        due(-1, x.trace(MAX));
    }

    static void promise29_the_longest_has_12_and_all_are_kept() {
        StruckWhile x = second(6, 3);
        x.act(1, TELLS, 5);
        int[] due = {40, 12, 70, 11, 71, 10, 10, 70, 11, 71, 10, 10};
        for (int i = 0; i < due.length; i++) {
            due(due[i], x.trace(i));
        }
        due(-1, x.trace(12));
    }

    static void promise29_nothing_stays_of_a_longer_one_before() {
        StruckWhile x = second(6, 3);
        x.act(1, TELLS, 5);
        x.act(0, GLOWS, 5);
        due(10, x.trace(0));
        due(-1, x.trace(1));
    }

    static void promise29_what_is_asked_changes_nothing() {
        for (int i : new int[] {MIN, -1, 0, 1, 12, 19, 20, MAX}) {
            asksOnly(x -> x.trace(i));
        }
    }

    // ---- 30: taken

    static void promise30_k_0_is_taken_and_what_is_below_is_BAD() {
        StruckWhile x = second(0, 0);
        due(0, x.taken(1, 0));
        due(-2, x.taken(1, -1));
        due(-2, x.taken(1, MIN));
    }

    static void promise30_k_6_is_taken_and_what_is_above_is_BAD() {
        StruckWhile x = second(6, 0);
        due(6, x.taken(1, 6));
        due(-2, x.taken(1, 7));
        due(-2, x.taken(1, MAX));
    }

    static void promise30_no_such_one_is_NOTHING() {
        StruckWhile x = second(0, 0);
        due(-11, x.taken(-1, 0));
        due(-11, x.taken(2, 0));
        due(-11, x.taken(MIN, 6));
        due(-11, x.taken(MAX, 6));
        due(-11, new StruckWhile().taken(0, 0));
    }

    static void promise30_BAD_comes_ahead_of_NOTHING() {
        StruckWhile x = second(0, 0);
        due(-2, x.taken(2, 7));
        due(-2, x.taken(-1, -1));
    }

    static void promise30_its_own_KIND_and_each_above_it() {
        int[][] over = {{0}, {1, 0}, {2, 0}, {3, 0}, {4, 1, 0}, {5, 2, 0}, {6, 3, 0}};
        for (int[] kinds : over) {
            for (int k : kinds) {
                due(kinds[0], second(kinds[0], 0).taken(1, k));
            }
        }
    }

    static void promise30_a_KIND_under_its_own_is_CAST() {
        due(-12, second(0, 0).taken(1, 1));
        due(-12, second(1, 0).taken(1, 4));
        due(-12, second(2, 0).taken(1, 5));
        due(-12, second(3, 0).taken(1, 6));
    }

    static void promise30_a_KIND_beside_its_own_is_CAST() {
        due(-12, second(1, 0).taken(1, 2));
        due(-12, second(4, 0).taken(1, 2));
        due(-12, second(4, 0).taken(1, 5));
        due(-12, second(5, 0).taken(1, 1));
        due(-12, second(6, 0).taken(1, 4));
        due(-12, second(0, 0).taken(1, 6));
    }

    static void promise30_of_one_AWAY_too() {
        StruckWhile x = second(4, 0);
        x.away(1, true);
        due(4, x.taken(1, 1));
    }

    static void promise30_what_is_asked_changes_nothing() {
        for (int k = -1; k <= 7; k++) {
            int asked = k;
            asksOnly(x -> x.taken(2, asked));
            asksOnly(x -> x.taken(6, asked));
        }
    }

    // ---- 31: count

    static void promise31_0_is_the_first_and_what_is_below_is_BAD() {
        StruckWhile x = Check.ones(5);
        due(1, x.count(0));
        due(-2, x.count(-1));
        due(-2, x.count(MIN));
    }

    static void promise31_7_is_the_last_and_what_is_above_is_BAD() {
        StruckWhile x = Check.ones(5);
        x.act(0, GLOWS, 5);
        due(1, x.count(7));
        due(-2, x.count(8));
        due(-2, x.count(MAX));
    }

    static void promise31_nothing_yet_is_0_of_each() {
        for (int what = 0; what <= 7; what++) {
            due(0, new StruckWhile().count(what));
        }
    }

    static void promise31_all_that_can_be_full_is_full() {
        int[] due = {6, 4, 6, 5, 10, 8};
        for (int what = 0; what < due.length; what++) {
            due(due[what], Stands.full().count(what));
        }
        due(100, Stands.fullText().count(6));
    }

    static void promise31_bodies_of_the_latest_act_only() {
        StruckWhile x = second(6, 3);
        x.act(1, TELLS, 5);
        due(12, x.count(7));
        x.act(0, GLOWS, 5);
        due(1, x.count(7));
    }

    static void promise31_no_body_runs_by_an_act_that_is_none() {
        StruckWhile x = second(6, 3);
        x.act(1, TELLS, 5);
        x.act(1, 3, 5);
        due(0, x.count(7));
        x.act(1, TELLS, 5);
        x.act(2, TELLS, 5);
        due(0, x.count(7));
    }

    static void promise31_a_SQUARE_and_a_FAULT() {
        StruckWhile x = new StruckWhile();
        Check.square(x, "spark 5");
        due(1, x.count(2));
        Check.square(x, "spark");
        due(1, x.count(2));
        due(0, x.count(6));
    }

    static void promise31_what_is_asked_changes_nothing() {
        for (int what = -1; what <= 8; what++) {
            int asked = what;
            asksOnly(x -> x.count(asked));
        }
    }
}
