/** Edges of promises 1 to 5 and 9: a new object, one, of, heat, away, row. */
public final class PeopleEdgesTest extends Edges {
    private static final int MIN = Integer.MIN_VALUE, MAX = Integer.MAX_VALUE;
    private static final int NO_SUCH = -10001;

    public static void main(String[] args) throws Exception {
        run(PeopleEdgesTest.class, 1, 2, 3, 4, 5, 9);
    }

    // ---- 1: a new object

    static void promise1_no_PEOPLE() {
        StruckWhile x = new StruckWhile();
        due(0, x.count(0));
        due(NO_SUCH, x.of(0, 0));
        due(-5, x.told(4));
        due(0, x.told(5));
    }

    static void promise1_no_WORKS() {
        StruckWhile x = new StruckWhile();
        due(0, x.count(1));
        due(-1, x.piece(0, 0));
        due(0, x.told(3));
    }

    static void promise1_nothing_ON_THE_ANVIL() {
        due(-5, new StruckWhile().told(2));
    }

    static void promise1_no_SQUARE() {
        StruckWhile x = new StruckWhile();
        due(0, x.count(2));
        due(80, x.told(1));
        due(0, x.count(6));
    }

    static void promise1_MINUTE_is_0() {
        due(0, new StruckWhile().told(0));
    }

    static void promise1_nothing_SEEN_no_PLAN_no_BOOK() {
        StruckWhile x = new StruckWhile();
        due(0, x.count(3));
        due(0, x.count(4));
        due(0, x.count(5));
    }

    static void promise1_no_TRACE() {
        StruckWhile x = new StruckWhile();
        due(0, x.count(7));
        due(-1, x.trace(0));
    }

    static void promise1_no_IMAGE() {
        due(-3, new StruckWhile().undo());
    }

    static void promise1_TAPES_hold_nothing() {
        StruckWhile x = new StruckWhile();
        for (int t = 0; t < 6; t++) {
            due(-11, x.item(t, 0, 1));
            due(StruckWhile.NO, x.read(t, 0));
        }
    }

    static void promise1_another_object_has_nothing_of_this_one() {
        Stands.full();
        StruckWhile x = new StruckWhile();
        for (int what = 0; what <= 7; what++) {
            due(0, x.count(what));
        }
        due(-3, x.undo());
        due(80, x.told(1));
    }

    static void promise1_the_512th_call_is_answered_like_the_first() {
        StruckWhile x = Check.ones(5);
        for (int call = 2; call <= 511; call++) {
            due(5, x.of(0, 2));
        }
        due(1, x.count(0));
    }

    // ---- 2: one

    static void promise2_KIND_0_is_taken_and_what_is_below_is_NONE() {
        StruckWhile x = new StruckWhile();
        due(-1, x.one(-1, 0, 0));
        due(-1, x.one(MIN, 0, 0));
        due(0, x.one(0, 0, 0));
        due(0, x.of(0, 0));
    }

    static void promise2_KIND_6_is_taken_and_what_is_above_is_NONE() {
        StruckWhile x = new StruckWhile();
        due(-1, x.one(7, 0, 0));
        due(-1, x.one(MAX, 0, 0));
        due(0, x.one(6, 0, 0));
        due(6, x.of(0, 0));
    }

    static void promise2_v_0_is_taken_and_what_is_below_is_BAD() {
        StruckWhile x = new StruckWhile();
        due(-2, x.one(0, -1, 0));
        due(-2, x.one(0, MIN, 0));
        due(0, x.one(0, 0, 0));
        due(0, x.of(0, 1));
    }

    static void promise2_v_9_is_taken_and_what_is_above_is_BAD() {
        StruckWhile x = new StruckWhile();
        due(-2, x.one(0, 10, 0));
        due(-2, x.one(0, MAX, 0));
        due(0, x.one(0, 9, 0));
        due(9, x.of(0, 1));
    }

    static void promise2_HEAT_0_is_taken_and_what_is_below_is_BAD() {
        StruckWhile x = new StruckWhile();
        due(-2, x.one(0, 0, -1));
        due(-2, x.one(0, 0, MIN));
        due(0, x.one(0, 0, 0));
        due(0, x.of(0, 2));
    }

    static void promise2_HEAT_99_is_taken_and_what_is_above_is_BAD() {
        StruckWhile x = new StruckWhile();
        due(-2, x.one(0, 0, 100));
        due(-2, x.one(0, 0, MAX));
        due(0, x.one(0, 0, 99));
        due(99, x.of(0, 2));
    }

    static void promise2_the_first_is_0_the_sixth_is_5_and_a_seventh_is_FULL() {
        StruckWhile x = new StruckWhile();
        for (int number = 0; number <= 5; number++) {
            due(number, x.one(0, 0, 10 * number));
        }
        due(-4, x.one(0, 0, 0));
        due(6, x.count(0));
        heatsAre(x, 0, 10, 20, 30, 40, 50);
    }

    static void promise2_not_AWAY_at_first() {
        due(0, Stands.alone(0, 0, 0).of(0, 3));
    }

    static void promise2_the_ROW_is_0_at_first() {
        StruckWhile x = Stands.alone(6, 0, 0);
        for (int part = 0; part < 4; part++) {
            due(0, x.row(0, part, 0));
        }
    }

    static void promise2_NONE_comes_ahead_of_BAD() {
        StruckWhile x = new StruckWhile();
        due(-1, x.one(7, 10, 100));
        due(-1, x.one(-1, -1, -1));
        due(-1, x.one(-1, 0, 100));
        due(-1, x.one(7, -1, 0));
    }

    static void promise2_NONE_comes_ahead_of_FULL() {
        due(-1, Stands.full().one(7, 0, 0));
        due(-1, Stands.full().one(-1, 0, 0));
    }

    static void promise2_BAD_comes_ahead_of_FULL() {
        due(-2, Stands.full().one(0, 10, 0));
        due(-2, Stands.full().one(0, -1, 0));
        due(-2, Stands.full().one(0, 0, 100));
        due(-2, Stands.full().one(0, 0, -1));
    }

    static void promise2_NONE_changes_nothing() {
        changesNothing(-1, x -> x.one(-1, 5, 5));
        changesNothing(-1, x -> x.one(7, 5, 5));
    }

    static void promise2_BAD_changes_nothing() {
        changesNothing(-2, x -> x.one(2, -1, 5));
        changesNothing(-2, x -> x.one(2, 10, 5));
        changesNothing(-2, x -> x.one(2, 5, -1));
        changesNothing(-2, x -> x.one(2, 5, 100));
    }

    static void promise2_FULL_changes_nothing() {
        changesNothing(-4, Stands::full, x -> x.one(2, 5, 5));
    }

    // ---- 3: of

    static void promise3_no_such_one() {
        StruckWhile x = Check.ones(1, 2);
        for (int what = 0; what <= 5; what++) {
            due(NO_SUCH, x.of(-1, what));
            due(NO_SUCH, x.of(2, what));
            due(NO_SUCH, x.of(MIN, what));
            due(NO_SUCH, x.of(MAX, what));
            due(NO_SUCH, new StruckWhile().of(0, what));
            due(NO_SUCH, Stands.full().of(6, what));
        }
    }

    static void promise3_no_such_what() {
        StruckWhile x = Check.ones(1, 2);
        due(NO_SUCH, x.of(0, -1));
        due(NO_SUCH, x.of(1, 6));
        due(NO_SUCH, x.of(1, MIN));
        due(NO_SUCH, x.of(1, MAX));
    }

    static void promise3_the_first_what_and_the_last() {
        StruckWhile x = new StruckWhile();
        x.one(4, 7, 50);
        x.one(0, 0, 50);
        due(4, x.of(0, 0));
        due(1, x.of(0, 5));
    }

    static void promise3_the_first_one_and_the_last() {
        StruckWhile x = Check.ones(11, 12, 13, 14, 15, 16);
        due(11, x.of(0, 2));
        due(16, x.of(5, 2));
    }

    static void promise3_HEAT_50_is_hot_and_49_is_not() {
        StruckWhile x = Check.ones(0, 49);
        due(0, x.of(0, 5));
        x.heat(1, 50);
        due(1, x.of(0, 5));
    }

    static void promise3_the_first_has_one_beside_and_so_has_the_last() {
        StruckWhile x = Check.ones(99, 99, 99, 99, 99, 99);
        due(1, x.of(0, 5));
        due(2, x.of(1, 5));
        due(2, x.of(4, 5));
        due(1, x.of(5, 5));
    }

    static void promise3_the_ends_of_the_row_do_not_meet() {
        StruckWhile x = Check.ones(99, 0, 0, 0, 0, 99);
        due(0, x.of(0, 5));
        due(0, x.of(5, 5));
        x.away(5, true);
        due(0, x.of(0, 5));
    }

    static void promise3_only_those_next_to_one_are_beside() {
        StruckWhile x = Check.ones(99, 0, 0, 0, 99);
        due(1, x.of(1, 5));
        due(0, x.of(2, 5));
        due(1, x.of(3, 5));
    }

    static void promise3_one_alone_has_none_beside() {
        due(0, Stands.alone(0, 0, 99).of(0, 5));
    }

    static void promise3_who_came_later_is_beside_too() {
        StruckWhile x = Stands.alone(0, 0, 99);
        x.one(0, 0, 50);
        due(1, x.of(0, 5));
    }

    static void promise3_one_AWAY_does_not_count_beside_on_either_side() {
        StruckWhile x = Check.ones(99, 0, 99);
        x.away(0, true);
        due(1, x.of(1, 5));
        x.away(2, true);
        due(0, x.of(1, 5));
        x.away(0, false);
        due(1, x.of(1, 5));
    }

    static void promise3_those_beside_one_AWAY_count() {
        StruckWhile x = Check.ones(99, 0, 99);
        x.away(1, true);
        due(2, x.of(1, 5));
    }

    static void promise3_RISE_without_a_SQUARE_has_a_SUM_of_0() {
        int[] due = {0, 0, 5, 0, 0, 5, 0};
        for (int kind = 0; kind <= 6; kind++) {
            due(due[kind], Stands.alone(kind, 0, 49).of(0, 4));
        }
    }

    static void promise3_RISE_of_a_BANKER_is_3_less_from_HEAT_50_on() {
        due(0, Stands.alone(1, 9, 49).of(0, 4));
        due(-3, Stands.alone(1, 9, 50).of(0, 4));
    }

    static void promise3_RISE_of_a_LOVER_is_v_more_and_3_less_from_HEAT_50_on() {
        due(9, Stands.alone(4, 9, 49).of(0, 4));
        due(6, Stands.alone(4, 9, 50).of(0, 4));
        due(-3, Stands.alone(4, 0, 50).of(0, 4));
    }

    static void promise3_RISE_of_a_GIRL_is_5_more_each_third_MINUTE() {
        int[] due = {5, 0, 0, 5, 0, 0, 5};
        for (int minute = 0; minute < due.length; minute++) {
            due(due[minute], Stands.later(Stands.alone(2, 9, 99), minute).of(0, 4));
        }
    }

    static void promise3_RISE_of_a_RECTOR_is_the_half_cut_toward_0() {
        int[] due = {-2, -1, -1, 0, 0, 0, 1, 1, 2};
        for (int sum = -4; sum <= 4; sum++) {
            due(due[sum + 4], bySum(Stands.alone(3, 9, 99), sum).of(0, 4));
        }
    }

    static void promise3_RISE_of_a_TOLD_is_the_half_cut_toward_0_and_its_ROW() {
        int[] due = {7, 8, 8, 9, 9, 9, 10, 10, 11};
        for (int sum = -4; sum <= 4; sum++) {
            StruckWhile x = bySum(Stands.alone(6, 0, 99), sum);
            x.row(0, 0, 9);
            due(due[sum + 4], x.of(0, 4));
        }
    }

    private static StruckWhile bySum(StruckWhile x, int sum) {
        due(0, Check.square(x, (sum < 0 ? "calm " : "heat ") + Math.abs(sum) + " p<9"));
        return x;
    }

    static void promise3_RISE_of_a_TOLD_takes_its_ROW_at_MINUTE_modulo_4() {
        int[] due = {1, 2, 3, 9, 1, 2, 3, 9, 1};
        for (int minute = 0; minute < due.length; minute++) {
            StruckWhile x = Stands.later(Stands.alone(6, 0, 99), minute);
            x.row(0, 0, 1);
            x.row(0, 1, 2);
            x.row(0, 2, 3);
            x.row(0, 3, 9);
            due(due[minute], x.of(0, 4));
        }
    }

    static void promise3_RISE_of_a_CROWD_is_as_of_a_GIRL_and_twice_those_beside_who_are_hot() {
        StruckWhile x = new StruckWhile();
        x.one(0, 0, 49);
        x.one(5, 9, 99);
        x.one(0, 0, 49);
        due(5, x.of(1, 4));
        x.heat(0, 50);
        due(7, x.of(1, 4));
        x.heat(2, 50);
        due(9, x.of(1, 4));
        x.away(0, true);
        due(7, x.of(1, 4));
        x.away(0, false);
        Stands.later(x, 1);
        due(4, x.of(1, 4));
    }

    static void promise3_RISE_is_below_0_at_last_for_each_KIND() {
        int[] due = {-99, -102, -94, -49, -102, -94, -49};
        for (int kind = 0; kind <= 6; kind++) {
            StruckWhile x = Stands.alone(kind, 0, 50);
            due(0, Check.square(x, "calm 99 p<9"));
            due(due[kind], x.of(0, 4));
        }
    }

    static void promise3_RISE_is_told_beyond_99_too() {
        StruckWhile x = Stands.alone(0, 0, 99);
        due(0, Check.square(x, "heat 99 p<9;heat 99 p<9"));
        due(198, x.of(0, 4));
    }

    static void promise3_RISE_of_one_AWAY_is_told() {
        StruckWhile x = Stands.alone(4, 5, 50);
        x.away(0, true);
        due(2, x.of(0, 4));
    }

    static void promise3_what_is_asked_changes_nothing() {
        for (int what = -1; what <= 6; what++) {
            int asked = what;
            asksOnly(x -> x.of(2, asked));
            asksOnly(x -> x.of(6, asked));
        }
    }

    // ---- 4: heat

    static void promise4_no_such_one() {
        StruckWhile x = Check.ones(1, 2);
        due(-1, x.heat(-1, 5));
        due(-1, x.heat(2, 5));
        due(-1, x.heat(MIN, 5));
        due(-1, x.heat(MAX, 5));
        due(-1, new StruckWhile().heat(0, 5));
        due(-1, Stands.full().heat(6, 5));
    }

    static void promise4_the_first_one_and_the_last() {
        StruckWhile x = Check.ones(1, 2, 3, 4, 5, 6);
        due(1, x.heat(0, 90));
        due(6, x.heat(5, 80));
        heatsAre(x, 90, 2, 3, 4, 5, 80);
    }

    static void promise4_0_is_taken_and_what_is_below_is_BAD() {
        StruckWhile x = Check.ones(7);
        due(-2, x.heat(0, -1));
        due(-2, x.heat(0, MIN));
        due(7, x.heat(0, 0));
        due(0, x.of(0, 2));
    }

    static void promise4_99_is_taken_and_what_is_above_is_BAD() {
        StruckWhile x = Check.ones(7);
        due(-2, x.heat(0, 100));
        due(-2, x.heat(0, MAX));
        due(7, x.heat(0, 99));
        due(99, x.of(0, 2));
    }

    static void promise4_the_same_again_is_taken() {
        StruckWhile x = Check.ones(7);
        due(7, x.heat(0, 7));
        due(7, x.heat(0, 7));
    }

    static void promise4_of_one_AWAY_too() {
        StruckWhile x = Check.ones(7);
        x.away(0, true);
        due(7, x.heat(0, 8));
        due(8, x.of(0, 2));
        due(1, x.of(0, 3));
    }

    static void promise4_NONE_comes_ahead_of_BAD() {
        StruckWhile x = Check.ones(7);
        due(-1, x.heat(1, 100));
        due(-1, x.heat(-1, -1));
    }

    static void promise4_NONE_changes_nothing() {
        changesNothing(-1, x -> x.heat(-1, 5));
        changesNothing(-1, x -> x.heat(6, 5));
    }

    static void promise4_BAD_changes_nothing() {
        changesNothing(-2, Stands::some, x -> x.heat(0, 100));
        changesNothing(-2, Stands::some, x -> x.heat(3, -1));
        changesNothing(-2, Stands::full, x -> x.heat(5, 100));
    }

    // ---- 5: away

    static void promise5_no_such_one() {
        StruckWhile x = Check.ones(1, 2);
        due(-1, x.away(-1, true));
        due(-1, x.away(2, true));
        due(-1, x.away(2, false));
        due(-1, x.away(MIN, true));
        due(-1, x.away(MAX, true));
        due(-1, new StruckWhile().away(0, true));
        due(-1, Stands.full().away(6, true));
    }

    static void promise5_the_first_one_and_the_last() {
        StruckWhile x = Check.ones(1, 2, 3, 4, 5, 6);
        due(0, x.away(0, true));
        due(0, x.away(5, true));
        int[] due = {1, 0, 0, 0, 0, 1};
        for (int p = 0; p < 6; p++) {
            due(due[p], x.of(p, 3));
        }
    }

    static void promise5_what_is_so_already_stays_so() {
        StruckWhile x = Check.ones(1);
        due(0, x.away(0, false));
        due(0, x.away(0, true));
        due(1, x.away(0, true));
        due(1, x.of(0, 3));
        due(1, x.away(0, false));
        due(0, x.of(0, 3));
    }

    static void promise5_NONE_changes_nothing() {
        changesNothing(-1, x -> x.away(-1, true));
        changesNothing(-1, x -> x.away(6, true));
        changesNothing(-1, x -> x.away(6, false));
    }

    // ---- 9: row

    /** 0 is a ONE, 1 a TOLD. */
    private static StruckWhile oneAndTold() {
        StruckWhile x = Stands.alone(0, 0, 0);
        x.one(6, 0, 0);
        return x;
    }

    static void promise9_no_such_one() {
        due(-1, oneAndTold().row(-1, 0, 0));
        due(-1, oneAndTold().row(2, 0, 0));
        due(-1, oneAndTold().row(MIN, 0, 0));
        due(-1, oneAndTold().row(MAX, 0, 0));
        due(-1, new StruckWhile().row(0, 0, 0));
        due(-1, Stands.full().row(6, 0, 0));
    }

    static void promise9_part_0_is_taken_and_what_is_below_is_NONE() {
        StruckWhile x = oneAndTold();
        due(-1, x.row(1, -1, 5));
        due(-1, x.row(1, MIN, 5));
        due(0, x.row(1, 0, 5));
        due(5, x.row(1, 0, 5));
    }

    static void promise9_part_3_is_taken_and_what_is_above_is_NONE() {
        StruckWhile x = oneAndTold();
        due(-1, x.row(1, 4, 5));
        due(-1, x.row(1, MAX, 5));
        due(0, x.row(1, 3, 5));
        due(5, x.row(1, 3, 5));
    }

    static void promise9_0_is_taken_and_what_is_below_is_BAD() {
        StruckWhile x = oneAndTold();
        x.row(1, 2, 4);
        due(-2, x.row(1, 2, -1));
        due(-2, x.row(1, 2, MIN));
        due(4, x.row(1, 2, 0));
        due(0, x.row(1, 2, 0));
    }

    static void promise9_9_is_taken_and_what_is_above_is_BAD() {
        StruckWhile x = oneAndTold();
        due(-2, x.row(1, 2, 10));
        due(-2, x.row(1, 2, MAX));
        due(0, x.row(1, 2, 9));
        due(9, x.row(1, 2, 9));
    }

    static void promise9_each_part_and_each_one_for_itself() {
        StruckWhile x = oneAndTold();
        x.one(6, 0, 0);
        for (int part = 0; part < 4; part++) {
            due(0, x.row(1, part, part + 1));
        }
        for (int part = 0; part < 4; part++) {
            due(0, x.row(2, part, 0));
            due(part + 1, x.row(1, part, 0));
        }
    }

    static void promise9_each_other_KIND_is_STATE() {
        for (int kind = 0; kind <= 5; kind++) {
            due(-3, Stands.alone(kind, 0, 0).row(0, 0, 0));
        }
    }

    static void promise9_NONE_comes_ahead_of_BAD() {
        due(-1, oneAndTold().row(2, 0, 10));
        due(-1, oneAndTold().row(1, 4, 10));
        due(-1, oneAndTold().row(1, -1, -1));
    }

    static void promise9_NONE_comes_ahead_of_STATE() {
        due(-1, oneAndTold().row(0, 4, 0));
        due(-1, oneAndTold().row(0, -1, 0));
    }

    static void promise9_BAD_comes_ahead_of_STATE() {
        due(-2, oneAndTold().row(0, 0, 10));
        due(-2, oneAndTold().row(0, 3, -1));
    }

    static void promise9_NONE_changes_nothing() {
        changesNothing(-1, x -> x.row(-1, 0, 1));
        changesNothing(-1, x -> x.row(6, 0, 1));
        changesNothing(-1, Stands::some, x -> x.row(2, 4, 1));
        changesNothing(-1, Stands::some, x -> x.row(2, -1, 1));
    }

    static void promise9_BAD_changes_nothing() {
        changesNothing(-2, Stands::some, x -> x.row(2, 3, 10));
        changesNothing(-2, Stands::full, x -> x.row(5, 0, -1));
    }

    static void promise9_STATE_changes_nothing() {
        changesNothing(-3, Stands::some, x -> x.row(3, 0, 1));
        changesNothing(-3, Stands::full, x -> x.row(4, 3, 1));
    }
}
