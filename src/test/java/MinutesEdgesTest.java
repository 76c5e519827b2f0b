/** Edges of promises 13 and 14: pass, on. */
public final class MinutesEdgesTest extends Edges {
    private static final int MIN = Integer.MIN_VALUE, MAX = Integer.MAX_VALUE;

    public static void main(String[] args) throws Exception {
        run(MinutesEdgesTest.class, 13, 14);
    }

    // ---- 13: pass, how many MINUTES

    static void promise13_0_is_taken_and_what_is_below_is_BAD() {
        StruckWhile x = Check.ones(5);
        due(-2, x.pass(-1));
        due(-2, x.pass(MIN));
        due(0, x.pass(0));
        due(0, x.told(0));
    }

    static void promise13_60_is_taken_and_what_is_above_is_BAD() {
        StruckWhile x = Check.ones(5);
        due(-2, x.pass(61));
        due(-2, x.pass(MAX));
        due(60, x.pass(60));
        due(60, x.told(0));
    }

    static void promise13_1_MINUTE_is_1_more() {
        StruckWhile x = new StruckWhile();
        due(1, x.pass(1));
        due(2, x.pass(1));
    }

    static void promise13_0_MINUTES_change_nothing() {
        changesNothing(0, StruckWhile::new, x -> x.pass(0));
        changesNothing(1, Stands::some, x -> x.pass(0));
        changesNothing(2, Stands::full, x -> x.pass(0));
    }

    static void promise13_MINUTE_9999_is_reached() {
        StruckWhile x = Stands.later(new StruckWhile(), 9939);
        due(9999, x.pass(60));
        due(9999, x.told(0));
    }

    static void promise13_above_MINUTE_9999_is_STATE() {
        StruckWhile x = Stands.later(new StruckWhile(), 9940);
        due(-3, x.pass(60));
        due(9940, x.told(0));
        due(9999, x.pass(59));
        due(-3, x.pass(1));
        due(-3, x.pass(60));
        due(9999, x.told(0));
    }

    static void promise13_0_MINUTES_at_MINUTE_9999_are_taken() {
        due(9999, Stands.last().pass(0));
    }

    static void promise13_BAD_comes_ahead_of_STATE() {
        due(-2, Stands.last().pass(61));
        due(-2, Stands.last().pass(-1));
    }

    static void promise13_BAD_changes_nothing() {
        changesNothing(-2, x -> x.pass(61));
        changesNothing(-2, x -> x.pass(-1));
    }

    /** At MINUTE 9998, with one who would rise and a WORK that would be STRUCK. */
    private static StruckWhile nearlyLast() {
        StruckWhile x = Stands.later(new StruckWhile(), 9998);
        x.one(4, 9, 30);
        x.one(4, 9, 20);
        x.work(500, 5);
        x.anvil(0);
        return x;
    }

    static void promise13_STATE_changes_nothing_not_one_MINUTE_goes() {
        changesNothing(-3, MinutesEdgesTest::nearlyLast, x -> x.pass(2));
        changesNothing(-3, MinutesEdgesTest::nearlyLast, x -> x.pass(60));
    }

    static void promise13_many_MINUTES_are_as_many_times_one() {
        StruckWhile x = Stands.some();
        StruckWhile y = Stands.some();
        due(61, x.pass(60));
        for (int i = 0; i < 60; i++) {
            y.pass(1);
        }
        holds("all is as it is by one at a time", Sight.of(x).equals(Sight.of(y)));
    }

    // ---- 13: pass, who gives

    private static StruckWhile atTheAnvil(int needs, int... heats) {
        StruckWhile x = Check.ones(heats);
        x.work(needs, 5);
        x.anvil(0);
        return x;
    }

    private static void struck(StruckWhile x, int want) {
        due(want, x.piece(0, 2));
    }

    static void promise13_the_hottest_gives_all_its_HEAT() {
        StruckWhile x = atTheAnvil(500, 10, 40, 30);
        x.pass(1);
        heatsAre(x, 10, 0, 30);
        struck(x, 40);
    }

    static void promise13_of_several_hottest_the_first_gives() {
        StruckWhile x = atTheAnvil(500, 30, 40, 40);
        x.pass(1);
        heatsAre(x, 30, 0, 40);
        struck(x, 40);
    }

    static void promise13_one_AWAY_does_not_give() {
        StruckWhile x = atTheAnvil(500, 70, 30);
        x.away(0, true);
        x.pass(1);
        heatsAre(x, 70, 0);
        struck(x, 30);
    }

    static void promise13_all_AWAY_give_nothing_and_MINUTE_is_1_more() {
        StruckWhile x = atTheAnvil(500, 70, 30);
        Stands.allAway(x, true);
        due(1, x.pass(1));
        heatsAre(x, 70, 30);
        struck(x, 0);
    }

    static void promise13_nobody_gives_and_MINUTE_is_1_more() {
        StruckWhile x = atTheAnvil(500);
        due(1, x.pass(1));
        struck(x, 0);
    }

    static void promise13_nothing_ON_THE_ANVIL_nothing_is_given() {
        StruckWhile x = atTheAnvil(500, 40);
        x.anvil(-1);
        x.pass(1);
        heatsAre(x, 40);
        struck(x, 0);
    }

    static void promise13_what_is_DONE_is_given_nothing_more() {
        StruckWhile x = atTheAnvil(30, 30, 20);
        x.pass(1);
        heatsAre(x, 0, 20);
        struck(x, 30);
        x.pass(1);
        heatsAre(x, 0, 20);
        struck(x, 30);
    }

    static void promise13_what_lacks_1_is_given_more() {
        StruckWhile x = atTheAnvil(31, 30, 20);
        x.pass(2);
        heatsAre(x, 0, 0);
        struck(x, 50);
    }

    static void promise13_by_HEAT_0_one_gives_0_and_does_not_rise() {
        StruckWhile x = atTheAnvil(500, 0);
        Check.square(x, "heat 5 p=0");
        x.pass(3);
        heatsAre(x, 0);
        struck(x, 0);
    }

    static void promise13_who_gives_is_0_then_whatever_would_heat_it() {
        StruckWhile x = atTheAnvil(500, 90, 85);
        Check.square(x, "heat 9 p=0");
        x.pass(1);
        heatsAre(x, 0, 95);
        struck(x, 90);
    }

    static void promise13_who_gives_sets_off_others_by_its_HEAT_ahead_of_the_MINUTE() {
        StruckWhile x = atTheAnvil(500, 5, 85, 6);
        x.pass(1);
        heatsAre(x, 15, 0, 16);
    }

    // ---- 13: pass, how HEAT comes and goes

    private static void next(StruckWhile x, int... want) {
        x.pass(1);
        heatsAre(x, want);
    }

    static void promise13_a_spark_from_80_on_and_none_by_79() {
        next(Check.ones(80, 5), 80, 15);
        next(Check.ones(79, 5), 79, 5);
        next(Check.ones(5, 80), 15, 80);
    }

    static void promise13_two_sparks_are_20() {
        next(Check.ones(80, 5, 80), 80, 25, 80);
    }

    static void promise13_each_sets_off_the_other() {
        next(Check.ones(80, 80), 90, 90);
    }

    static void promise13_a_spark_goes_to_those_next_and_no_further() {
        next(Check.ones(5, 5, 80, 5, 5), 5, 15, 80, 15, 5);
    }

    static void promise13_the_ends_of_the_row_do_not_set_off_each_other() {
        next(Check.ones(80, 5, 5, 5, 5, 5), 80, 15, 5, 5, 5, 5);
        next(Check.ones(5, 5, 5, 5, 5, 80), 5, 5, 5, 5, 15, 80);
    }

    static void promise13_one_alone_sets_off_none() {
        next(Check.ones(80), 80);
    }

    static void promise13_one_AWAY_sets_off_none() {
        StruckWhile x = Check.ones(80, 5);
        x.away(0, true);
        next(x, 80, 5);
    }

    static void promise13_one_AWAY_is_not_set_off() {
        StruckWhile x = Check.ones(80, 5);
        x.away(1, true);
        next(x, 80, 5);
    }

    static void promise13_a_spark_does_not_leap_over_one_AWAY() {
        StruckWhile x = Check.ones(80, 5, 5);
        x.away(1, true);
        next(x, 80, 5, 5);
    }

    static void promise13_one_AWAY_does_not_rise() {
        StruckWhile x = Check.ones(30, 30);
        Check.square(x, "heat 5 p<9");
        x.away(0, true);
        next(x, 30, 35);
    }

    static void promise13_SPARK_0_sets_off_by_HEAT_0() {
        StruckWhile x = Check.ones(0, 0);
        Check.square(x, "spark 0");
        next(x, 10, 10);
    }

    static void promise13_SPARK_99_sets_off_by_99_and_not_by_98() {
        StruckWhile x = Check.ones(99, 0, 0, 98);
        Check.square(x, "spark 99");
        next(x, 99, 10, 0, 98);
    }

    static void promise13_HEAT_is_99_at_most() {
        StruckWhile x = Check.ones(90, 91, 99, 0);
        Check.square(x, "heat 9 p<2;heat 99 p=2;spark 99");
        next(x, 99, 99, 99, 10);
    }

    static void promise13_HEAT_is_0_at_least() {
        StruckWhile x = Check.ones(3, 2, 0);
        Check.square(x, "calm 3 p<2;calm 99 p=2");
        next(x, 0, 0, 0);
    }

    static void promise13_the_bounds_are_in_the_end_behind_RISE_and_sparks() {
        StruckWhile x = Check.ones(5, 80);
        Check.square(x, "calm 10 p=0");
        next(x, 5, 80);
        StruckWhile y = Check.ones(5, 80);
        Check.square(y, "calm 20 p=0");
        next(y, 0, 80);
    }

    static void promise13_sparks_go_by_how_all_is_ahead_of_the_MINUTE() {
        StruckWhile x = Check.ones(70, 80, 70);
        next(x, 80, 80, 80);
        next(x, 90, 99, 90);
    }

    static void promise13_RISE_goes_by_how_all_is_ahead_of_the_MINUTE() {
        StruckWhile x = Check.ones(49, 0, 50);
        Check.square(x, "heat 1 p=0;calm 1 p=2;heat 10 p=1&n=1");
        next(x, 50, 10, 49);
        next(x, 51, 20, 48);
        StruckWhile y = Check.ones(50, 49);
        Check.square(y, "calm 1 p=0&n=0;heat 1 p=1&n=1");
        next(y, 49, 50);
        next(y, 49, 50);
    }

    static void promise13_RISE_goes_by_MINUTE_ahead_of_it() {
        StruckWhile x = Stands.alone(2, 0, 0);
        next(x, 5);
        next(x, 5);
        next(x, 5);
        next(x, 10);
    }

    static void promise13_a_TOLD_comes_back_to_the_first_of_its_ROW_behind_4() {
        StruckWhile x = Stands.alone(6, 0, 0);
        for (int part = 0; part < 4; part++) {
            x.row(0, part, part + 1);
        }
        next(x, 1);
        next(x, 3);
        next(x, 6);
        next(x, 10);
        next(x, 11);
    }

    static void promise13_a_BANKER_gets_to_50_and_back() {
        StruckWhile x = Stands.alone(1, 0, 48);
        Check.square(x, "heat 2 p=0");
        next(x, 50);
        next(x, 49);
        next(x, 51);
        next(x, 50);
    }

    // ---- 14: on

    static void promise14_no_such_what() {
        StruckWhile x = Check.ones(5, 6);
        x.work(5, 5);
        int[] none = {-1, 1, 9, 12, 15, 16, 19, 21, 23, 24, 30, MIN, MAX, MIN + 10, MIN + 20, MAX - 10, MAX - 20};
        for (int what : none) {
            due(-1, x.on(5, what));
        }
    }

    static void promise14_no_such_one_and_no_such_WORK_yet() {
        StruckWhile x = new StruckWhile();
        due(-1, x.on(0, 10));
        due(-1, x.on(0, 20));
        due(0, x.on(0, 0));
    }

    static void promise14_the_first_and_the_last_of_each() {
        StruckWhile x = Stands.full();
        due(x.told(3), x.on(0, 0));
        due(x.of(0, 2), x.on(0, 10));
        due(x.of(5, 2), x.on(0, 15));
        due(-1, x.on(0, 16));
        due(x.piece(0, 2), x.on(0, 20));
        due(x.piece(3, 2), x.on(0, 23));
        due(-1, x.on(0, 24));
        due(-1, x.on(0, 19));
        due(-1, x.on(0, 9));
    }

    static void promise14_0_is_as_it_is_now_and_what_is_below_is_BAD() {
        StruckWhile x = atTheAnvil(30, 30, 20);
        due(30, x.on(0, 10));
        due(0, x.on(0, 20));
        due(0, x.on(0, 0));
        due(-2, x.on(-1, 0));
        due(-2, x.on(-1, 10));
        due(-2, x.on(-1, 20));
        due(-2, x.on(MIN, 0));
    }

    static void promise14_60_is_taken_and_what_is_above_is_BAD() {
        StruckWhile x = Check.ones(5);
        Check.square(x, "heat 1 p=0");
        due(64, x.on(59, 10));
        due(65, x.on(60, 10));
        due(-2, x.on(61, 10));
        due(-2, x.on(61, 0));
        due(-2, x.on(MAX, 0));
    }

    static void promise14_NONE_comes_ahead_of_BAD() {
        StruckWhile x = Check.ones(5);
        due(-1, x.on(61, 11));
        due(-1, x.on(-1, -1));
        due(-1, x.on(-1, 20));
        due(-1, x.on(61, 9));
    }

    static void promise14_DONE_behind_as_many_and_not_behind_1_less() {
        StruckWhile x = atTheAnvil(50, 30, 20);
        due(0, x.on(1, 0));
        due(1, x.on(2, 0));
        due(30, x.on(1, 20));
        due(50, x.on(2, 20));
    }

    static void promise14_one_AWAY_stays_as_it_is() {
        StruckWhile x = Check.ones(30);
        Check.square(x, "heat 1 p=0");
        x.away(0, true);
        due(30, x.on(60, 10));
    }

    static void promise14_each_goes_on_by_its_KIND_its_v_and_its_ROW() {
        StruckWhile x = Stands.alone(4, 9, 41);
        x.one(6, 0, 0);
        x.row(1, 0, 9);
        x.one(2, 8, 0);
        Check.square(x, "heat 2 v=8");
        due(50, x.on(1, 10));
        due(56, x.on(2, 10));
        due(9, x.on(1, 11));
        due(9, x.on(2, 11));
        due(7, x.on(1, 12));
        due(9, x.on(2, 12));
    }

    static void promise14_it_goes_on_with_what_is_ON_THE_ANVIL_now() {
        StruckWhile x = atTheAnvil(500, 30);
        due(0, x.on(1, 10));
        x.anvil(-1);
        due(30, x.on(1, 10));
    }

    static void promise14_it_goes_on_beyond_MINUTE_9999() {
        StruckWhile x = Stands.last();
        x.one(0, 0, 0);
        Check.square(x, "heat 1 m=9;heat 2 m=0");
        due(1, x.on(1, 10));
        due(3, x.on(2, 10));
        due(18, x.on(60, 10));
        due(9999, x.told(0));
    }

    static void promise14_a_GIRL_and_a_TOLD_go_on_beyond_MINUTE_9999() {
        StruckWhile x = Stands.last();
        x.one(2, 0, 0);
        x.one(6, 0, 0);
        x.row(1, 3, 7);
        x.row(1, 0, 9);
        due(5, x.on(1, 10));
        due(5, x.on(3, 10));
        due(10, x.on(4, 10));
        due(7, x.on(1, 11));
        due(16, x.on(2, 11));
        due(16, x.on(4, 11));
        due(23, x.on(5, 11));
    }

    static void promise14_what_is_asked_changes_nothing() {
        for (int what : new int[] {-1, 0, 10, 13, 20, 22}) {
            for (int n : new int[] {-1, 0, 1, 60, 61}) {
                asksOnly(x -> x.on(n, what));
            }
        }
    }
}
