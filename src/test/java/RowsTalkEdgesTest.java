/** Edges of promises 15 and 16: best, talk. */
public final class RowsTalkEdgesTest extends Edges {
    private static final int MIN = Integer.MIN_VALUE, MAX = Integer.MAX_VALUE;

    public static void main(String[] args) throws Exception {
        run(RowsTalkEdgesTest.class, 15, 16);
    }

    // ---- 15: best

    /** How many, then the row; -5 behind it. */
    private static void best(StruckWhile x, int n, int howMany, int... row) {
        due(howMany, x.best(n, -1));
        for (int k = 0; k < 4; k++) {
            due(k < row.length ? row[k] : -5, x.best(n, k));
        }
    }

    static void promise15_k_minus_1_is_how_many_and_what_is_below_is_NONE() {
        StruckWhile x = Stands.full();
        due(-1, x.best(5, -2));
        due(-1, x.best(5, MIN));
        due(0, new StruckWhile().best(5, -1));
    }

    static void promise15_k_3_is_the_last_and_what_is_above_is_NONE() {
        StruckWhile x = new StruckWhile();
        for (int w = 0; w < 4; w++) {
            x.work(5, 5);
        }
        due(3, x.best(5, 3));
        due(-1, x.best(5, 4));
        due(-1, x.best(5, MAX));
    }

    static void promise15_n_0_is_taken_and_what_is_below_is_BAD() {
        StruckWhile x = new StruckWhile();
        due(0, x.best(0, -1));
        due(-2, x.best(-1, -1));
        due(-2, x.best(-1, 0));
        due(-2, x.best(MIN, 3));
    }

    static void promise15_n_40_is_taken_and_what_is_above_is_BAD() {
        StruckWhile x = new StruckWhile();
        due(0, x.best(40, -1));
        due(-2, x.best(41, -1));
        due(-2, x.best(41, 0));
        due(-2, x.best(MAX, 3));
    }

    static void promise15_NONE_comes_ahead_of_BAD() {
        StruckWhile x = Stands.full();
        due(-1, x.best(41, 4));
        due(-1, x.best(-1, -2));
    }

    static void promise15_BAD_comes_ahead_of_there_being_fewer() {
        due(-2, new StruckWhile().best(41, 3));
    }

    static void promise15_the_kth_is_minus_5_if_there_are_fewer() {
        for (int works = 0; works <= 4; works++) {
            StruckWhile x = new StruckWhile();
            for (int w = 0; w < works; w++) {
                x.work(5, 5);
            }
            for (int k = 0; k < 4; k++) {
                due(k < works ? k : -5, x.best(40, k));
            }
        }
    }

    static void promise15_with_nobody_none_is_DONE_and_the_row_is_the_first() {
        StruckWhile x = new StruckWhile();
        x.work(1, 60);
        x.work(1, 60);
        best(x, 40, 0, 0, 1);
    }

    static void promise15_behind_0_MINUTES_only_those_DONE_now() {
        StruckWhile x = Check.ones(30, 99);
        x.work(99, 60);
        x.work(1, 60);
        best(x, 0, 0, 0, 1);
        x.anvil(1);
        x.pass(1);
        best(x, 0, 1, 0, 1);
    }

    static void promise15_one_DONE_now_counts_by_a_DUE_of_0() {
        StruckWhile x = Check.ones(30);
        x.work(30, 0);
        x.anvil(0);
        x.pass(1);
        best(x, 0, 1, 0);
        best(x, 40, 1, 0);
    }

    static void promise15_one_not_DONE_now_never_counts_by_a_DUE_of_0() {
        StruckWhile x = Check.ones(99);
        x.work(1, 0);
        best(x, 40, 0, 0);
    }

    static void promise15_DONE_behind_its_DUE_counts_and_1_later_does_not() {
        StruckWhile x = Check.ones(60, 50);
        x.work(110, 2);
        best(x, 40, 1, 0);
        StruckWhile y = Check.ones(60, 50);
        y.work(110, 1);
        best(y, 40, 0, 0);
    }

    static void promise15_DONE_behind_n_counts_and_1_later_does_not() {
        StruckWhile x = Check.ones(60, 50);
        x.work(110, 60);
        best(x, 2, 1, 0);
        best(x, 1, 0, 0);
    }

    /** Two at 0 who get 1 hotter: nothing is given in the first MINUTE, and 1 in each later one. */
    private static StruckWhile oneEachMinute(StruckWhile x, int needs) {
        x.one(0, 0, 0);
        x.one(0, 0, 0);
        Check.square(x, "heat 1 p<9");
        x.work(needs, 60);
        return x;
    }

    static void promise15_DONE_behind_all_40_MINUTES_counts() {
        best(oneEachMinute(new StruckWhile(), 39), 40, 1, 0);
        best(oneEachMinute(new StruckWhile(), 39), 39, 0, 0);
        best(oneEachMinute(new StruckWhile(), 40), 40, 0, 0);
    }

    static void promise15_DUE_is_counted_from_now_whenever_it_is_asked() {
        StruckWhile x = Check.ones(30);
        x.work(30, 1);
        x.pass(60);
        best(x, 1, 1, 0);
        best(x, 40, 1, 0);
    }

    static void promise15_it_goes_on_beyond_MINUTE_9999() {
        StruckWhile x = oneEachMinute(Stands.last(), 39);
        best(x, 40, 1, 0);
        best(x, 39, 0, 0);
        due(9999, x.told(0));
    }

    static void promise15_of_several_the_first_row() {
        StruckWhile x = Check.ones(60, 50, 40, 30);
        for (int w = 0; w < 4; w++) {
            x.work(30, 60);
        }
        best(x, 40, 4, 0, 1, 2, 3);
        best(x, 2, 2, 0, 1, 2, 3);
        best(x, 0, 0, 0, 1, 2, 3);
    }

    static void promise15_a_later_row_by_which_1_more_is_DONE() {
        StruckWhile x = Check.ones(60, 50);
        x.work(110, 1);
        x.work(60, 1);
        best(x, 40, 1, 1, 0);
    }

    /** Each WORK can be DONE in time in one place of the row only. */
    static void promise15_each_row_of_all_from_the_first_to_the_last() {
        for (int works = 1; works <= 4; works++) {
            eachRow(new int[works], 0);
        }
    }

    private static void eachRow(int[] row, int place) {
        if (place == row.length) {
            isTheBest(row);
            return;
        }
        for (int w = 0; w < row.length; w++) {
            row[place] = w;
            boolean isNew = true;
            for (int ahead = 0; ahead < place; ahead++) {
                isNew = isNew && row[ahead] != w;
            }
            if (isNew) {
                eachRow(row, place + 1);
            }
        }
    }

    private static void isTheBest(int[] row) {
        StruckWhile x = Check.ones(60, 50, 40, 30);
        for (int w = 0; w < row.length; w++) {
            for (int place = 0; place < row.length; place++) {
                if (row[place] == w) {
                    due(w, x.work(60 - 10 * place, place + 1));
                }
            }
        }
        best(x, 40, row.length, row);
    }

    static void promise15_what_is_DONE_is_passed_over_at_once() {
        StruckWhile x = Check.ones(60, 50);
        x.work(60, 0);
        x.work(50, 1);
        x.anvil(0);
        x.pass(1);
        best(x, 1, 2, 0, 1);
    }

    /** Were a MINUTE lost by the one that is DONE, the other would be late, and a later row the first of the best. */
    static void promise15_what_is_DONE_is_passed_over_at_once_between_others() {
        StruckWhile x = Check.ones(60, 50, 40);
        x.work(50, 1);
        x.work(60, 0);
        x.work(40, 2);
        x.anvil(1);
        x.pass(1);
        best(x, 2, 3, 0, 1, 2);
    }

    static void promise15_all_are_DONE_now() {
        StruckWhile x = Check.ones(1, 1);
        x.work(1, 0);
        x.work(1, 0);
        x.anvil(1);
        x.pass(1);
        x.anvil(0);
        x.pass(1);
        best(x, 0, 2, 0, 1);
        best(x, 40, 2, 0, 1);
    }

    static void promise15_it_does_not_look_at_what_is_ON_THE_ANVIL() {
        StruckWhile x = Check.ones(60, 50);
        x.work(60, 1);
        x.work(50, 2);
        x.anvil(1);
        best(x, 2, 2, 0, 1);
        best(x, 1, 1, 0, 1);
    }

    static void promise15_what_is_late_stays_ON_THE_ANVIL_until_it_is_DONE() {
        StruckWhile x = Check.ones(60, 50, 40);
        x.work(100, 1);
        x.work(40, 1);
        x.work(40, 3);
        best(x, 3, 2, 1, 2, 0);
    }

    static void promise15_what_is_asked_changes_nothing() {
        for (int k = -2; k <= 4; k++) {
            int asked = k;
            asksOnly(x -> x.best(0, asked));
            asksOnly(x -> x.best(40, asked));
            asksOnly(x -> x.best(41, asked));
        }
    }

    // ---- 16: talk

    private static void talk(StruckWhile x, int n, int who, int much) {
        due(who, x.talk(n, 0));
        due(much, x.talk(n, 1));
    }

    static void promise16_no_such_what() {
        StruckWhile x = Check.ones(5);
        due(-1, x.talk(5, -1));
        due(-1, x.talk(5, 2));
        due(-1, x.talk(5, MIN));
        due(-1, x.talk(5, MAX));
    }

    static void promise16_n_0_is_taken_and_what_is_below_is_BAD() {
        StruckWhile x = Check.ones(5);
        talk(x, 0, 0, 5);
        talk(x, -1, -2, -2);
        talk(x, MIN, -2, -2);
    }

    static void promise16_n_99_is_taken_and_what_is_above_is_BAD() {
        StruckWhile x = Check.ones(0);
        talk(x, 99, 0, 99);
        talk(x, 100, -2, -2);
        talk(x, MAX, -2, -2);
    }

    static void promise16_NONE_comes_ahead_of_BAD() {
        StruckWhile x = Check.ones(5);
        due(-1, x.talk(100, 2));
        due(-1, x.talk(-1, -1));
    }

    static void promise16_NONE_and_BAD_come_ahead_of_minus_5() {
        StruckWhile x = new StruckWhile();
        due(-1, x.talk(5, 2));
        due(-2, x.talk(100, 0));
        due(-2, x.talk(-1, 1));
    }

    static void promise16_minus_5_with_nobody() {
        talk(new StruckWhile(), 0, -5, -5);
        talk(new StruckWhile(), 99, -5, -5);
    }

    static void promise16_the_greatest_HEAT_may_be_0() {
        StruckWhile x = Check.ones(0, 0);
        due(0, x.talk(0, 0));
        due(0, x.talk(0, 1));
    }

    static void promise16_minus_5_if_all_are_AWAY() {
        StruckWhile x = Check.ones(5, 6);
        Stands.allAway(x, true);
        talk(x, 9, -5, -5);
        x.away(1, false);
        talk(x, 9, 1, 15);
    }

    static void promise16_with_one_AWAY_is_not_talked() {
        StruckWhile x = Check.ones(10, 70);
        x.away(1, true);
        talk(x, 9, 0, 19);
    }

    static void promise16_the_HEAT_of_one_AWAY_is_not_the_greatest() {
        StruckWhile x = Check.ones(10, 70);
        x.away(1, true);
        talk(x, 0, 0, 10);
    }

    static void promise16_behind_3_MINUTES_not_2_and_not_4() {
        StruckWhile x = Check.ones(10);
        Check.square(x, "heat 1 p=0");
        talk(x, 5, 0, 18);
        StruckWhile y = Check.ones(10);
        Check.square(y, "heat 5 m=2;heat 70 m=3");
        talk(y, 0, 0, 15);
    }

    static void promise16_99_at_most_now() {
        StruckWhile x = Check.ones(50);
        Check.square(x, "calm 10 p=0");
        talk(x, 48, 0, 68);
        talk(x, 49, 0, 69);
        talk(x, 50, 0, 69);
        talk(x, 99, 0, 69);
    }

    static void promise16_nothing_is_ON_THE_ANVIL() {
        StruckWhile x = Check.ones(40);
        x.work(500, 5);
        x.anvil(0);
        talk(x, 5, 0, 45);
        due(0, x.told(2));
    }

    static void promise16_of_several_the_first() {
        talk(Check.ones(40, 40), 5, 0, 45);
        talk(Check.ones(39, 40, 40), 5, 1, 45);
        StruckWhile x = Check.ones(10, 40, 40);
        talk(x, 0, 0, 40);
        x.away(0, true);
        talk(x, 0, 1, 40);
    }

    static void promise16_the_last_one_of_six() {
        talk(Check.ones(0, 0, 0, 0, 0, 1), 9, 5, 10);
    }

    static void promise16_a_spark_from_80_on_and_none_by_79() {
        talk(Check.ones(70, 65), 9, 0, 79);
        talk(Check.ones(70, 65), 10, 0, 95);
    }

    static void promise16_it_goes_on_beyond_MINUTE_9999() {
        StruckWhile x = Stands.last();
        x.one(0, 0, 0);
        Check.square(x, "heat 1 m=9;heat 20 m=0;heat 30 m=1;heat 40 m=2");
        talk(x, 0, 0, 51);
        due(9999, x.told(0));
    }

    static void promise16_what_is_asked_changes_nothing() {
        for (int n : new int[] {-1, 0, 99, 100}) {
            for (int what = -1; what <= 2; what++) {
                int asked = what;
                asksOnly(x -> x.talk(n, asked));
            }
        }
    }
}
