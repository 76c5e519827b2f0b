/** Edges of promises 21 to 24: plan, ends, book, looked. */
public final class PlansEdgesTest extends Edges {
    private static final int MIN = Integer.MIN_VALUE, MAX = Integer.MAX_VALUE;

    public static void main(String[] args) throws Exception {
        run(PlansEdgesTest.class, 21, 22, 23, 24);
    }

    // ---- 21: plan

    private static StruckWhile twoOfEach() {
        StruckWhile x = Check.ones(5, 6);
        x.work(5, 5);
        x.work(6, 6);
        return x;
    }

    static void promise21_what_0_is_taken_and_what_is_below_minus_1_is_NONE() {
        StruckWhile x = twoOfEach();
        due(-1, x.plan(-2, 0));
        due(-1, x.plan(MIN, 0));
        due(1, x.plan(0, 0));
    }

    static void promise21_what_3_is_taken_and_what_is_above_is_NONE() {
        StruckWhile x = twoOfEach();
        due(-1, x.plan(4, 0));
        due(-1, x.plan(MAX, 0));
        due(1, x.plan(3, 0));
    }

    static void promise21_by_1_and_2_no_such_one() {
        StruckWhile x = twoOfEach();
        for (int what = 1; what <= 2; what++) {
            due(-1, x.plan(what, -1));
            due(-1, x.plan(what, 2));
            due(-1, x.plan(what, MIN));
            due(-1, x.plan(what, MAX));
            due(-1, new StruckWhile().plan(what, 0));
        }
        due(0, x.count(4));
    }

    static void promise21_by_1_and_2_the_first_one_and_the_last() {
        StruckWhile x = Check.ones(1, 2, 3, 4, 5, 6);
        due(1, x.plan(1, 0));
        due(2, x.plan(1, 5));
        due(3, x.plan(2, 0));
        due(4, x.plan(2, 5));
        due(-1, x.plan(1, 6));
        due(-1, x.plan(2, 6));
    }

    static void promise21_by_3_no_such_WORK() {
        StruckWhile x = twoOfEach();
        due(-1, x.plan(3, -1));
        due(-1, x.plan(3, 2));
        due(-1, x.plan(3, MIN));
        due(-1, x.plan(3, MAX));
        due(-1, new StruckWhile().plan(3, 0));
        due(0, x.count(4));
    }

    static void promise21_by_3_the_first_WORK_and_the_last() {
        StruckWhile x = twoOfEach();
        x.work(7, 7);
        x.work(8, 8);
        due(1, x.plan(3, 0));
        due(2, x.plan(3, 3));
        due(-1, x.plan(3, 4));
    }

    static void promise21_by_0_n_does_not_matter() {
        StruckWhile x = new StruckWhile();
        due(1, x.plan(0, MIN));
        due(2, x.plan(0, -1));
        due(3, x.plan(0, 99));
        due(4, x.plan(0, MAX));
    }

    static void promise21_the_tenth_is_taken_and_an_eleventh_is_FULL() {
        StruckWhile x = twoOfEach();
        for (int n = 1; n <= 10; n++) {
            due(n, x.plan(0, 0));
        }
        for (int what = 0; what <= 3; what++) {
            due(-4, x.plan(what, 0));
        }
        due(10, x.count(4));
    }

    static void promise21_minus_1_empties_whatever_n_is() {
        for (int n : new int[] {MIN, -1, 0, 5, MAX}) {
            StruckWhile x = twoOfEach();
            x.plan(0, 0);
            due(0, x.plan(-1, n));
            due(0, x.count(4));
        }
    }

    static void promise21_minus_1_empties_what_is_full() {
        StruckWhile x = Stands.full();
        due(0, x.plan(-1, 0));
        due(1, x.plan(0, 0));
    }

    static void promise21_minus_1_with_nothing_planned_and_with_nobody() {
        due(0, twoOfEach().plan(-1, 0));
        due(0, new StruckWhile().plan(-1, 0));
    }

    static void promise21_NONE_comes_ahead_of_FULL() {
        due(-1, Stands.full().plan(4, 0));
        due(-1, Stands.full().plan(-2, 0));
        due(-1, Stands.full().plan(1, 6));
        due(-1, Stands.full().plan(2, -1));
        due(-1, Stands.full().plan(3, 4));
    }

    static void promise21_NONE_changes_nothing() {
        changesNothing(-1, x -> x.plan(4, 0));
        changesNothing(-1, x -> x.plan(-2, 0));
        changesNothing(-1, x -> x.plan(1, 6));
        changesNothing(-1, x -> x.plan(2, -1));
        changesNothing(-1, x -> x.plan(3, 4));
    }

    static void promise21_FULL_changes_nothing() {
        changesNothing(-4, Stands::full, x -> x.plan(0, 0));
        changesNothing(-4, Stands::full, x -> x.plan(1, 5));
        changesNothing(-4, Stands::full, x -> x.plan(3, 0));
    }

    // ---- 22: ends

    static void promise22_what_0_and_1_and_no_other() {
        StruckWhile x = twoOfEach();
        due(11, x.ends(0));
        due(0, x.ends(1));
        due(-1, x.ends(-1));
        due(-1, x.ends(2));
        due(-1, x.ends(MIN));
        due(-1, x.ends(MAX));
    }

    static void promise22_with_nothing_planned_all_is_as_it_is_now() {
        due(0, new StruckWhile().ends(0));
        due(0, new StruckWhile().ends(1));
        StruckWhile x = Check.ones(30, 20);
        x.work(30, 5);
        x.anvil(0);
        due(50, x.ends(0));
        due(0, x.ends(1));
        x.pass(1);
        due(20, x.ends(0));
        due(1, x.ends(1));
    }

    static void promise22_ten_MINUTES() {
        StruckWhile x = Check.ones(0);
        Check.square(x, "heat 1 p=0");
        for (int n = 1; n <= 10; n++) {
            x.plan(0, 0);
            due(n, x.ends(0));
        }
    }

    static void promise22_HEAT_of_those_AWAY_too() {
        StruckWhile x = Check.ones(30, 20);
        x.away(0, true);
        due(50, x.ends(0));
        x.plan(1, 1);
        x.plan(0, 0);
        due(50, x.ends(0));
    }

    static void promise22_AWAY_and_back_as_often_as_planned() {
        StruckWhile x = Check.ones(0);
        Check.square(x, "heat 1 p=0");
        x.plan(1, 0);
        x.plan(1, 0);
        x.plan(0, 0);
        due(0, x.ends(0));
        x.plan(2, 0);
        x.plan(2, 0);
        x.plan(0, 0);
        due(1, x.ends(0));
        due(0, x.of(0, 3));
    }

    static void promise22_it_goes_on_with_what_is_ON_THE_ANVIL_now() {
        StruckWhile x = Check.ones(30, 20);
        x.work(30, 5);
        x.work(20, 5);
        x.anvil(1);
        x.plan(0, 0);
        due(2, x.ends(1));
        due(20, x.ends(0));
        x.plan(3, 0);
        x.plan(0, 0);
        due(2, x.ends(1));
        due(0, x.ends(0));
        due(1, x.told(2));
    }

    static void promise22_DONE_by_as_much_as_it_NEEDS_and_not_by_1_less() {
        StruckWhile x = Check.ones(30);
        x.work(30, 5);
        x.plan(3, 0);
        x.plan(0, 0);
        due(1, x.ends(1));
        StruckWhile y = Check.ones(30);
        y.work(31, 5);
        y.plan(3, 0);
        y.plan(0, 0);
        due(0, y.ends(1));
    }

    static void promise22_all_four_WORKS_are_DONE() {
        StruckWhile x = Check.ones(1, 1, 1, 1);
        for (int w = 0; w < 4; w++) {
            x.work(1, 0);
            x.plan(3, w);
            x.plan(0, 0);
        }
        due(15, x.ends(1));
        due(0, x.ends(0));
    }

    static void promise22_a_WORK_that_is_DONE_is_given_nothing() {
        StruckWhile x = Check.ones(30, 20);
        x.work(30, 5);
        x.anvil(0);
        x.pass(1);
        x.anvil(-1);
        x.plan(3, 0);
        x.plan(0, 0);
        due(20, x.ends(0));
        due(1, x.ends(1));
    }

    static void promise22_it_goes_on_beyond_MINUTE_9999() {
        StruckWhile x = Stands.last();
        x.one(0, 0, 0);
        Check.square(x, "heat 1 m=9;heat 2 m=0");
        x.plan(0, 0);
        due(1, x.ends(0));
        x.plan(0, 0);
        due(3, x.ends(0));
        due(9999, x.told(0));
    }

    static void promise22_what_is_asked_changes_nothing() {
        for (int what = -1; what <= 2; what++) {
            int asked = what;
            asksOnly(x -> x.ends(asked));
        }
    }

    // ---- 23: book

    static void promise23_no_such_one() {
        StruckWhile x = Check.ones(5, 6);
        due(-1, x.book(-2, 5));
        due(-1, x.book(2, 5));
        due(-1, x.book(MIN, 5));
        due(-1, x.book(MAX, 5));
        due(-1, new StruckWhile().book(0, 5));
        due(0, x.count(5));
    }

    static void promise23_the_first_one_and_the_last() {
        StruckWhile x = Check.ones(1, 2, 3, 4, 5, 6);
        due(1, x.book(0, 5));
        due(2, x.book(5, 5));
        due(-1, x.book(6, 5));
    }

    static void promise23_HEAT_0_is_taken_and_what_is_below_is_BAD() {
        StruckWhile x = Check.ones(5);
        due(-2, x.book(0, -1));
        due(-2, x.book(0, MIN));
        due(1, x.book(0, 0));
    }

    static void promise23_HEAT_99_is_taken_and_what_is_above_is_BAD() {
        StruckWhile x = Check.ones(5);
        due(-2, x.book(0, 100));
        due(-2, x.book(0, MAX));
        due(1, x.book(0, 99));
    }

    static void promise23_the_eighth_is_taken_and_a_ninth_is_FULL() {
        StruckWhile x = Check.ones(5);
        for (int n = 1; n <= 8; n++) {
            due(n, x.book(0, 5));
        }
        due(-4, x.book(0, 5));
        due(8, x.count(5));
    }

    static void promise23_minus_1_empties_whatever_the_HEAT_is() {
        for (int heat : new int[] {MIN, -1, 0, 99, 100, MAX}) {
            StruckWhile x = Check.ones(5);
            x.book(0, 6);
            due(0, x.book(-1, heat));
            due(0, x.count(5));
            due(-5, x.looked());
        }
    }

    static void promise23_minus_1_empties_what_is_full() {
        StruckWhile x = Stands.full();
        due(0, x.book(-1, 0));
        due(1, x.book(0, 0));
    }

    static void promise23_minus_1_with_nothing_booked_and_with_nobody() {
        due(0, Check.ones(5).book(-1, 0));
        due(0, new StruckWhile().book(-1, 0));
    }

    static void promise23_NONE_comes_ahead_of_BAD() {
        due(-1, Check.ones(5).book(1, 100));
        due(-1, Check.ones(5).book(-2, -1));
    }

    static void promise23_NONE_comes_ahead_of_FULL() {
        due(-1, Stands.full().book(6, 0));
        due(-1, Stands.full().book(-2, 0));
    }

    static void promise23_BAD_comes_ahead_of_FULL() {
        due(-2, Stands.full().book(0, 100));
        due(-2, Stands.full().book(0, -1));
    }

    static void promise23_NONE_changes_nothing() {
        changesNothing(-1, x -> x.book(-2, 5));
        changesNothing(-1, x -> x.book(6, 5));
    }

    static void promise23_BAD_changes_nothing() {
        changesNothing(-2, Stands::some, x -> x.book(0, -1));
        changesNothing(-2, Stands::some, x -> x.book(0, 100));
        changesNothing(-2, Stands::full, x -> x.book(0, 100));
    }

    static void promise23_FULL_changes_nothing() {
        changesNothing(-4, Stands::full, x -> x.book(0, 0));
        changesNothing(-4, Stands::full, x -> x.book(5, 99));
    }

    // ---- 24: looked

    static void promise24_minus_5_with_nothing_booked() {
        due(-5, new StruckWhile().looked());
        due(-5, Check.ones(5).looked());
    }

    static void promise24_minus_5_if_all_is_so() {
        StruckWhile x = Check.ones(0, 99);
        x.book(0, 0);
        x.book(1, 99);
        due(-5, x.looked());
    }

    static void promise24_the_first_row_is_0() {
        StruckWhile x = Check.ones(5);
        x.book(0, 6);
        due(0, x.looked());
    }

    static void promise24_only_the_last_of_eight_is_otherwise() {
        StruckWhile x = Check.ones(5);
        for (int n = 0; n < 7; n++) {
            x.book(0, 5);
        }
        x.book(0, 4);
        due(7, x.looked());
    }

    static void promise24_of_several_the_first() {
        StruckWhile x = Check.ones(5, 5);
        x.book(0, 5);
        x.book(1, 4);
        x.book(0, 6);
        due(1, x.looked());
    }

    static void promise24_by_1_more_and_by_1_less() {
        StruckWhile x = Check.ones(5);
        x.book(0, 5);
        x.heat(0, 6);
        due(0, x.looked());
        x.heat(0, 4);
        due(0, x.looked());
        x.heat(0, 5);
        due(-5, x.looked());
    }

    static void promise24_of_one_AWAY_too() {
        StruckWhile x = Check.ones(5);
        x.away(0, true);
        x.book(0, 5);
        due(-5, x.looked());
        x.book(0, 6);
        due(1, x.looked());
    }

    static void promise24_it_looks_at_now_whenever_it_is_asked() {
        StruckWhile x = Check.ones(5);
        Check.square(x, "heat 1 p=0");
        x.book(0, 7);
        due(0, x.looked());
        x.pass(2);
        due(-5, x.looked());
        x.pass(1);
        due(0, x.looked());
    }

    static void promise24_what_is_asked_changes_nothing() {
        asksOnly(StruckWhile::looked);
    }
}
