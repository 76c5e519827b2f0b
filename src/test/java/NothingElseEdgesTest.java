import java.util.function.ToLongFunction;

/**
 * That a call which changes something changes nothing else. What can be told back is told back, and then all is as it was; of
 * the rest, only those lines of a Sight may be otherwise that go by what changed.
 */
public final class NothingElseEdgesTest extends Edges {
    private static final String SAID_OF_SEEN = "can(", SAID_OF_THE_PLAN = "ends(", BEHIND_A_SQUARE = "behind square(): ";

    public static void main(String[] args) throws Exception {
        run(NothingElseEdgesTest.class, 2, 4, 5, 6, 8, 9, 10, 11, 13, 17, 21, 23, 26, 27, 32, 33, 35);
    }

    /** Answers what the second of the calls does. */
    private static ToLongFunction<StruckWhile> both(ToLongFunction<StruckWhile> first, ToLongFunction<StruckWhile> second) {
        return x -> {
            first.applyAsLong(x);
            return second.applyAsLong(x);
        };
    }

    // ---- people, works, squares

    static void promise2_nothing_else_changes() {
        changesOnly(4, Stands::some, x -> x.one(6, 7, 30), "count(0)", "told(5)", "of(4, ", "of(3, 4)", "row(4, ",
            SAID_OF_SEEN, SAID_OF_THE_PLAN, BEHIND_A_SQUARE);
    }

    static void promise2_all_stays_that_goes_by_nobody_else() {
        changesOnly(4, Stands::some, x -> x.one(0, 0, 0), "count(0)", "of(4, ", "row(4, ", SAID_OF_SEEN,
            SAID_OF_THE_PLAN, BEHIND_A_SQUARE);
    }

    static void promise4_nothing_else_changes() {
        changesNothing(33, Stands::some, both(x -> x.heat(0, 33), x -> x.heat(0, 61)));
        changesNothing(99, Stands::some, both(x -> x.heat(1, 99), x -> x.heat(1, 49)));
        changesNothing(0, Stands::full, both(x -> x.heat(5, 0), x -> x.heat(5, Stands.full().of(5, 2))));
    }

    static void promise5_nothing_else_changes() {
        for (int p = 0; p < 4; p++) {
            int person = p;
            boolean was = p == 1;
            changesNothing(was ? 0 : 1, Stands::some, both(x -> x.away(person, !was), x -> x.away(person, was)));
        }
        changesNothing(1, Stands::full, both(x -> x.away(5, true), x -> x.away(5, false)));
    }

    static void promise6_nothing_else_changes() {
        changesOnly(3, Stands::some, x -> x.work(500, 30), "count(1)", "piece(3, ");
    }

    static void promise8_nothing_else_changes() {
        for (int work = -1; work < 3; work++) {
            int other = work;
            changesNothing(other < 0 ? -5 : other, Stands::some, both(x -> x.anvil(other), x -> x.anvil(1)));
        }
        changesNothing(3, Stands::full, both(x -> x.anvil(3), x -> x.anvil(2)));
        changesNothing(-5, Stands::full, both(x -> x.anvil(-1), x -> x.anvil(2)));
    }

    static void promise9_nothing_else_changes() {
        int[] was = {4, 7, 5, 9};
        for (int i = 0; i < was.length; i++) {
            int part = i;
            changesNothing(8, Stands::some, both(x -> x.row(2, part, 8), x -> x.row(2, part, was[part])));
        }
        changesNothing(0, Stands::full, both(x -> x.row(5, 3, 0), x -> x.row(5, 3, 6)));
    }

    static void promise10_nothing_else_changes() {
        changesOnly(20, Stands::some, x -> x.feed(';'), "count(6)", "square()", BEHIND_A_SQUARE, "behind undo(): count(2)");
        changesOnly(8, Stands::full, x -> x.feed('0'), "count(6)", "behind undo(): count(6)");
    }

    static void promise11_nothing_else_changes_by_a_SQUARE() {
        changesOnly(1, Stands::some, StruckWhile::square, "count(2)", "count(6)", "told(1)", "of(0, 4)", "of(1, 4)", "of(2, 4)",
            "of(3, 4)", SAID_OF_SEEN, SAID_OF_THE_PLAN, "square()", BEHIND_A_SQUARE, "behind undo(): count(2)");
    }

    static void promise11_nothing_else_changes_by_a_FAULT() {
        changesOnly(-30, () -> Stands.fed(Stands.some(), ";"), StruckWhile::square, "count(6)", "square()", BEHIND_A_SQUARE);
    }

    // ---- minutes

    /** Behind a MINUTE that changes the HEAT of some. */
    static void promise13_nothing_else_changes() {
        changesOnly(2, Stands::some, x -> x.pass(1), "told(0)", "told(4)", "told(5)", "of(0, ", "of(2, ", "of(3, ", "of(1, 5)",
            "of(1, 4)", "piece(1, 2)", SAID_OF_SEEN, SAID_OF_THE_PLAN, "looked()", BEHIND_A_SQUARE);
    }

    static void promise13_KIND_v_and_AWAY_stay() {
        StruckWhile x = Stands.some();
        StruckWhile y = Stands.some();
        x.pass(60);
        for (int p = 0; p < 4; p++) {
            due(y.of(p, 0), x.of(p, 0));
            due(y.of(p, 1), x.of(p, 1));
            due(y.of(p, 3), x.of(p, 3));
        }
    }

    static void promise13_only_MINUTE_changes_with_all_AWAY() {
        changesOnly(12, NothingElseEdgesTest::someAway, x -> x.pass(11), "told(0)", "of(2, 4)", "of(3, 4)", SAID_OF_SEEN,
            SAID_OF_THE_PLAN, BEHIND_A_SQUARE);
    }

    private static StruckWhile someAway() {
        StruckWhile x = Stands.some();
        Stands.allAway(x, true);
        return x;
    }

    static void promise13_what_is_DONE_stays_ON_THE_ANVIL() {
        StruckWhile x = Check.ones(90);
        x.work(80, 5);
        x.work(80, 5);
        x.anvil(0);
        x.pass(2);
        due(1, x.told(3));
        due(0, x.told(2));
    }

    // ---- rows by hand

    static void promise17_nothing_else_changes() {
        changesOnly(3, Stands::some, x -> x.see(1, 3, true), "count(3)", SAID_OF_SEEN);
        changesOnly(0, Stands::some, x -> x.see(-1, 0, false), "count(3)", SAID_OF_SEEN);
        changesOnly(0, Stands::full, x -> x.see(-1, 0, false), "count(3)", SAID_OF_SEEN);
    }

    static void promise21_nothing_else_changes() {
        changesOnly(4, Stands::some, x -> x.plan(0, 0), "count(4)", SAID_OF_THE_PLAN);
        changesOnly(4, Stands::some, x -> x.plan(1, 2), "count(4)", SAID_OF_THE_PLAN);
        changesOnly(4, Stands::some, x -> x.plan(2, 1), "count(4)", SAID_OF_THE_PLAN);
        changesOnly(4, Stands::some, x -> x.plan(3, 0), "count(4)", SAID_OF_THE_PLAN);
        changesOnly(0, Stands::some, x -> x.plan(-1, 0), "count(4)", SAID_OF_THE_PLAN);
        changesOnly(0, Stands::full, x -> x.plan(-1, 0), "count(4)", SAID_OF_THE_PLAN);
    }

    static void promise23_nothing_else_changes() {
        changesOnly(3, Stands::some, x -> x.book(2, 5), "count(5)", "looked()");
        changesOnly(0, Stands::some, x -> x.book(-1, 0), "count(5)", "looked()");
        changesOnly(0, Stands::full, x -> x.book(-1, 0), "count(5)", "looked()");
    }

    // ---- the image, tapes

    static void promise26_nothing_else_changes() {
        changesOnly(4, Stands::some, StruckWhile::image, "behind undo(): ");
        changesOnly(6, Stands::full, StruckWhile::image, "behind undo(): ");
    }

    /** The first SQUARE held as THE IMAGE was taken, so SPARK and SUM stay. */
    static void promise27_nothing_else_changes() {
        changesOnly(4, Stands::some, StruckWhile::undo, "count(3)", "count(4)", "count(5)", "told(0)", "told(2)", "told(3)",
            "told(4)", "told(5)", "of(", "piece(0, ", "piece(1, ", SAID_OF_SEEN, SAID_OF_THE_PLAN, "looked()", "row(2, 2, 0)",
            BEHIND_A_SQUARE + "of(");
    }

    static void promise32_nothing_else_changes() {
        changesOnly(1, Stands::some, x -> x.tape(1, 2, 4), "read(1, ");
        changesOnly(1, Stands::some, x -> x.tape(1, -1, 0), "read(1, ");
        changesOnly(1, Stands::some, x -> x.tape(5, 0, 60), "read(5, ");
        changesOnly(1, Stands::full, x -> x.tape(5, -1, 0), "read(5, ");
        changesOnly(1, Stands::full, x -> x.tape(0, -1, 0), "read(0, ");
    }

    static void promise33_nothing_else_changes() {
        for (int t = 0; t < 5; t++) {
            int tape = t;
            changesOnly(1, Stands::some, x -> x.item(tape, 1, 9), "read(" + tape + ", 1)");
        }
        changesOnly(1, Stands::full, x -> x.item(5, 59, 9), "read(5, 59)");
    }

    static void promise35_nothing_else_changes() {
        changesOnly(1, Stands::some, x -> x.shift(2, 2, 2, 1, 1), "read(2, 1)");
        changesOnly(3, Stands::full, x -> x.shift(0, 0, 5, 1, 3), "read(5, 1)", "read(5, 2)", "read(5, 3)");
    }
}
