/** Edges of promises 6 to 8: work, piece, anvil. */
public final class WorksEdgesTest extends Edges {
    private static final int MIN = Integer.MIN_VALUE, MAX = Integer.MAX_VALUE;

    public static void main(String[] args) throws Exception {
        run(WorksEdgesTest.class, 6, 7, 8);
    }

    // ---- 6: work

    static void promise6_needs_1_is_taken_and_what_is_below_is_BAD() {
        StruckWhile x = new StruckWhile();
        due(-2, x.work(0, 5));
        due(-2, x.work(-1, 5));
        due(-2, x.work(MIN, 5));
        due(0, x.work(1, 5));
        due(1, x.piece(0, 0));
    }

    static void promise6_needs_999_is_taken_and_what_is_above_is_BAD() {
        StruckWhile x = new StruckWhile();
        due(-2, x.work(1000, 5));
        due(-2, x.work(MAX, 5));
        due(0, x.work(999, 5));
        due(999, x.piece(0, 0));
    }

    static void promise6_due_0_is_taken_and_what_is_below_is_BAD() {
        StruckWhile x = new StruckWhile();
        due(-2, x.work(5, -1));
        due(-2, x.work(5, MIN));
        due(0, x.work(5, 0));
        due(0, x.piece(0, 1));
    }

    static void promise6_due_60_is_taken_and_what_is_above_is_BAD() {
        StruckWhile x = new StruckWhile();
        due(-2, x.work(5, 61));
        due(-2, x.work(5, MAX));
        due(0, x.work(5, 60));
        due(60, x.piece(0, 1));
    }

    static void promise6_the_first_is_0_the_fourth_is_3_and_a_fifth_is_FULL() {
        StruckWhile x = new StruckWhile();
        for (int number = 0; number <= 3; number++) {
            due(number, x.work(10 + number, number));
        }
        due(-4, x.work(5, 5));
        due(4, x.count(1));
        for (int number = 0; number <= 3; number++) {
            due(10 + number, x.piece(number, 0));
            due(number, x.piece(number, 1));
        }
    }

    static void promise6_STRUCK_is_0_at_first_and_it_is_not_DONE() {
        StruckWhile x = new StruckWhile();
        x.work(1, 0);
        due(0, x.piece(0, 2));
        due(0, x.piece(0, 3));
    }

    static void promise6_a_new_one_is_not_ON_THE_ANVIL() {
        StruckWhile x = new StruckWhile();
        x.work(1, 0);
        due(-5, x.told(2));
    }

    static void promise6_BAD_comes_ahead_of_FULL() {
        due(-2, Stands.full().work(0, 5));
        due(-2, Stands.full().work(1000, 5));
        due(-2, Stands.full().work(5, -1));
        due(-2, Stands.full().work(5, 61));
    }

    static void promise6_BAD_changes_nothing() {
        changesNothing(-2, x -> x.work(0, 5));
        changesNothing(-2, x -> x.work(1000, 5));
        changesNothing(-2, x -> x.work(5, -1));
        changesNothing(-2, x -> x.work(5, 61));
    }

    static void promise6_FULL_changes_nothing() {
        changesNothing(-4, Stands::full, x -> x.work(5, 5));
    }

    // ---- 7: piece

    static void promise7_no_such_WORK() {
        StruckWhile x = new StruckWhile();
        due(-1, x.piece(0, 0));
        x.work(5, 5);
        for (int what = 0; what <= 4; what++) {
            due(-1, x.piece(-1, what));
            due(-1, x.piece(1, what));
            due(-1, x.piece(MIN, what));
            due(-1, x.piece(MAX, what));
            due(-1, Stands.full().piece(4, what));
        }
    }

    static void promise7_no_such_what() {
        StruckWhile x = new StruckWhile();
        x.work(5, 5);
        due(-1, x.piece(0, -1));
        due(-1, x.piece(0, 5));
        due(-1, x.piece(0, MIN));
        due(-1, x.piece(0, MAX));
    }

    static void promise7_the_first_what_and_the_last() {
        StruckWhile x = new StruckWhile();
        x.work(7, 5);
        due(7, x.piece(0, 0));
        due(-5, x.piece(0, 4));
    }

    static void promise7_DONE_by_as_much_as_it_NEEDS_and_not_by_1_less() {
        StruckWhile x = Check.ones(30, 30);
        x.work(30, 5);
        x.work(31, 5);
        x.anvil(0);
        x.pass(1);
        due(30, x.piece(0, 2));
        due(1, x.piece(0, 3));
        x.anvil(1);
        x.pass(1);
        due(30, x.piece(1, 2));
        due(0, x.piece(1, 3));
    }

    static void promise7_STRUCK_may_be_more_than_it_NEEDS() {
        StruckWhile x = Check.ones(99);
        x.work(1, 5);
        x.anvil(0);
        x.pass(1);
        due(99, x.piece(0, 2));
        due(1, x.piece(0, 0));
        due(1, x.piece(0, 3));
    }

    static void promise7_DUE_stays_as_told_while_MINUTES_go() {
        StruckWhile x = new StruckWhile();
        x.work(5, 3);
        x.pass(60);
        due(3, x.piece(0, 1));
    }

    static void promise7_READY_is_0_for_what_is_DONE_now() {
        StruckWhile x = Check.ones(30);
        x.work(30, 0);
        x.anvil(0);
        x.pass(1);
        due(0, x.piece(0, 4));
    }

    /** Two at 0 who get 1 hotter: nothing is given in the first MINUTE, and 1 in each later one. */
    private static StruckWhile oneEachMinute(int needs) {
        StruckWhile x = Check.ones(0, 0);
        Check.square(x, "heat 1 p<9");
        x.work(needs, 0);
        return x;
    }

    static void promise7_READY_is_told_up_to_60_and_is_minus_5_behind_that() {
        due(2, oneEachMinute(1).piece(0, 4));
        due(59, oneEachMinute(58).piece(0, 4));
        due(60, oneEachMinute(59).piece(0, 4));
        due(-5, oneEachMinute(60).piece(0, 4));
    }

    static void promise7_READY_takes_the_last_that_is_needed_to_the_full() {
        StruckWhile x = Check.ones(40, 60);
        x.work(60, 0);
        x.work(61, 0);
        x.work(100, 0);
        x.work(101, 0);
        due(1, x.piece(0, 4));
        due(2, x.piece(1, 4));
        due(2, x.piece(2, 4));
        due(-5, x.piece(3, 4));
    }

    static void promise7_READY_does_not_look_at_what_is_ON_THE_ANVIL() {
        StruckWhile x = Check.ones(40, 60);
        x.work(60, 0);
        x.work(100, 0);
        for (int anvil = -1; anvil <= 1; anvil++) {
            x.anvil(anvil);
            due(1, x.piece(0, 4));
            due(2, x.piece(1, 4));
        }
    }

    static void promise7_READY_goes_on_from_what_is_STRUCK() {
        StruckWhile x = Check.ones(40, 60);
        x.work(90, 0);
        x.anvil(0);
        x.pass(1);
        due(1, x.piece(0, 4));
    }

    static void promise7_READY_is_minus_5_with_nobody() {
        StruckWhile x = new StruckWhile();
        x.work(1, 60);
        due(-5, x.piece(0, 4));
    }

    static void promise7_READY_is_minus_5_if_all_are_AWAY() {
        StruckWhile x = Check.ones(99, 99);
        x.work(1, 60);
        Stands.allAway(x, true);
        due(-5, x.piece(0, 4));
    }

    static void promise7_READY_does_not_look_at_DUE() {
        StruckWhile x = Check.ones(40, 60);
        x.work(100, 0);
        due(2, x.piece(0, 4));
    }

    static void promise7_READY_goes_on_beyond_MINUTE_9999() {
        StruckWhile x = Stands.last();
        x.one(0, 0, 0);
        x.one(0, 0, 0);
        Check.square(x, "heat 1 p<9");
        x.work(59, 0);
        x.work(60, 0);
        due(60, x.piece(0, 4));
        due(-5, x.piece(1, 4));
        due(9999, x.told(0));
    }

    static void promise7_what_is_asked_changes_nothing() {
        for (int what = -1; what <= 5; what++) {
            int asked = what;
            asksOnly(x -> x.piece(0, asked));
            asksOnly(x -> x.piece(1, asked));
            asksOnly(x -> x.piece(4, asked));
        }
    }

    // ---- 8: anvil

    private static StruckWhile withTwo() {
        StruckWhile x = new StruckWhile();
        x.work(5, 5);
        x.work(6, 6);
        return x;
    }

    static void promise8_no_such_WORK() {
        due(-1, new StruckWhile().anvil(0));
        due(-1, withTwo().anvil(2));
        due(-1, withTwo().anvil(-2));
        due(-1, withTwo().anvil(MIN));
        due(-1, withTwo().anvil(MAX));
        due(-1, Stands.full().anvil(4));
    }

    static void promise8_the_first_and_the_last() {
        StruckWhile x = new StruckWhile();
        for (int w = 0; w < 4; w++) {
            x.work(5, 5);
        }
        due(-5, x.anvil(3));
        due(3, x.anvil(0));
        due(0, x.told(2));
    }

    static void promise8_minus_1_is_none_and_what_was_is_minus_5_then() {
        StruckWhile x = withTwo();
        due(-5, x.anvil(-1));
        due(-5, x.anvil(1));
        due(1, x.anvil(-1));
        due(-5, x.told(2));
        due(-5, x.anvil(-1));
    }

    static void promise8_minus_1_with_no_WORKS() {
        due(-5, new StruckWhile().anvil(-1));
    }

    static void promise8_the_same_again() {
        StruckWhile x = withTwo();
        due(-5, x.anvil(0));
        due(0, x.anvil(0));
        due(0, x.told(2));
    }

    static void promise8_what_is_DONE_stays_ON_THE_ANVIL_and_comes_there() {
        StruckWhile x = Check.ones(30);
        x.work(30, 0);
        x.anvil(0);
        x.pass(2);
        due(0, x.told(2));
        due(0, x.anvil(-1));
        due(-5, x.anvil(0));
        due(0, x.told(2));
    }

    static void promise8_NONE_changes_nothing() {
        changesNothing(-1, x -> x.anvil(4));
        changesNothing(-1, x -> x.anvil(-2));
    }
}
