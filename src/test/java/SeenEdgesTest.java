/** Edges of promises 17 to 20: see, can, odds, mean. */
public final class SeenEdgesTest extends Edges {
    private static final int MIN = Integer.MIN_VALUE, MAX = Integer.MAX_VALUE;
    private static final long NO = StruckWhile.NO;

    public static void main(String[] args) throws Exception {
        run(SeenEdgesTest.class, 17, 18, 19, 20);
    }

    // ---- 17: see

    static void promise17_no_such_one() {
        StruckWhile x = Check.ones(5, 6);
        due(-1, x.see(-2, 0, true));
        due(-1, x.see(2, 0, true));
        due(-1, x.see(MIN, 0, true));
        due(-1, x.see(MAX, 0, true));
        due(-1, new StruckWhile().see(0, 0, true));
        due(0, x.count(3));
    }

    static void promise17_the_first_one_and_the_last() {
        StruckWhile x = Check.ones(1, 2, 3, 4, 5, 6);
        due(1, x.see(0, 0, true));
        due(2, x.see(5, 0, true));
        due(-1, x.see(6, 0, true));
    }

    static void promise17_n_0_is_taken_and_what_is_below_is_BAD() {
        StruckWhile x = Check.ones(5);
        due(-2, x.see(0, -1, true));
        due(-2, x.see(0, MIN, true));
        due(1, x.see(0, 0, true));
    }

    static void promise17_n_12_is_taken_and_what_is_above_is_BAD() {
        StruckWhile x = Check.ones(5);
        due(-2, x.see(0, 13, true));
        due(-2, x.see(0, MAX, true));
        due(1, x.see(0, 12, true));
    }

    static void promise17_the_fifth_is_taken_and_a_sixth_is_FULL() {
        StruckWhile x = Check.ones(5);
        for (int n = 1; n <= 5; n++) {
            due(n, x.see(0, n, true));
        }
        due(-4, x.see(0, 0, true));
        due(5, x.count(3));
    }

    static void promise17_minus_1_empties_whatever_the_rest_is() {
        for (int n : new int[] {MIN, -1, 0, 12, 13, MAX}) {
            StruckWhile x = Check.ones(5);
            x.see(0, 0, true);
            due(0, x.see(-1, n, n > 0));
            due(0, x.count(3));
            due(100, x.can(0, 0, 0));
        }
    }

    static void promise17_minus_1_empties_what_is_full() {
        StruckWhile x = Stands.full();
        due(0, x.see(-1, 0, true));
        due(1, x.see(0, 0, true));
    }

    static void promise17_minus_1_with_nothing_SEEN_and_with_nobody() {
        due(0, Check.ones(5).see(-1, 0, true));
        due(0, new StruckWhile().see(-1, 0, true));
    }

    static void promise17_the_same_again_is_one_more() {
        StruckWhile x = Check.ones(5);
        due(1, x.see(0, 3, true));
        due(2, x.see(0, 3, true));
        due(3, x.see(0, 3, false));
    }

    static void promise17_one_AWAY_is_SEEN_too() {
        StruckWhile x = Check.ones(5);
        x.away(0, true);
        due(1, x.see(0, 3, true));
    }

    static void promise17_NONE_comes_ahead_of_BAD() {
        due(-1, Check.ones(5).see(1, 13, true));
        due(-1, Check.ones(5).see(-2, -1, true));
    }

    static void promise17_NONE_comes_ahead_of_FULL() {
        due(-1, Stands.full().see(6, 0, true));
        due(-1, Stands.full().see(-2, 0, true));
    }

    static void promise17_BAD_comes_ahead_of_FULL() {
        due(-2, Stands.full().see(0, 13, true));
        due(-2, Stands.full().see(0, -1, true));
    }

    static void promise17_NONE_changes_nothing() {
        changesNothing(-1, x -> x.see(-2, 0, true));
        changesNothing(-1, x -> x.see(6, 0, true));
    }

    static void promise17_BAD_changes_nothing() {
        changesNothing(-2, Stands::some, x -> x.see(0, -1, true));
        changesNothing(-2, Stands::some, x -> x.see(0, 13, true));
        changesNothing(-2, Stands::full, x -> x.see(0, 13, true));
    }

    static void promise17_FULL_changes_nothing() {
        changesNothing(-4, Stands::full, x -> x.see(0, 0, true));
        changesNothing(-4, Stands::full, x -> x.see(5, 12, false));
    }

    // ---- 18: can

    private static void heats(StruckWhile x, int person, int howMany, int least) {
        due(howMany, x.can(person, 0, 0));
        due(least, x.can(person, 0, 1));
    }

    private static void numbers(StruckWhile x, int person, int howMany, int least) {
        due(howMany, x.can(person, 1, 0));
        due(least, x.can(person, 1, 1));
    }

    static void promise18_no_such_one() {
        StruckWhile x = Check.ones(5);
        for (int i = 0; i < 4; i++) {
            due(-1, x.can(-1, i / 2, i % 2));
            due(-1, x.can(1, i / 2, i % 2));
            due(-1, x.can(MIN, i / 2, i % 2));
            due(-1, x.can(MAX, i / 2, i % 2));
            due(-1, new StruckWhile().can(0, i / 2, i % 2));
        }
    }

    static void promise18_no_such_which() {
        StruckWhile x = Check.ones(5);
        due(-1, x.can(0, -1, 0));
        due(-1, x.can(0, 2, 0));
        due(-1, x.can(0, MIN, 1));
        due(-1, x.can(0, MAX, 1));
    }

    static void promise18_no_such_what() {
        StruckWhile x = Check.ones(5);
        due(-1, x.can(0, 0, -1));
        due(-1, x.can(0, 0, 2));
        due(-1, x.can(0, 1, MIN));
        due(-1, x.can(0, 1, MAX));
    }

    static void promise18_nothing_SEEN_all_numbers_are_so() {
        heats(Check.ones(5), 0, 100, 0);
        numbers(Check.ones(5), 0, 10, 0);
    }

    static void promise18_none_is_so() {
        StruckWhile x = Check.ones(5);
        x.see(0, 0, true);
        x.see(0, 0, false);
        heats(x, 0, 0, -5);
        numbers(x, 0, 0, -5);
    }

    static void promise18_hot_from_50_on() {
        StruckWhile x = Check.ones(5);
        x.see(0, 0, true);
        heats(x, 0, 50, 50);
        StruckWhile y = Check.ones(5);
        y.see(0, 0, false);
        heats(y, 0, 50, 0);
    }

    static void promise18_only_HEAT_99_is_so() {
        StruckWhile x = Check.ones(5);
        Check.square(x, "calm 49 p=0");
        x.see(0, 1, true);
        heats(x, 0, 1, 99);
        StruckWhile y = Check.ones(5);
        Check.square(y, "calm 50 p=0");
        y.see(0, 1, true);
        heats(y, 0, 0, -5);
    }

    static void promise18_only_HEAT_0_is_so() {
        StruckWhile x = Check.ones(5);
        Check.square(x, "heat 49 p=0");
        x.see(0, 1, false);
        heats(x, 0, 1, 0);
        StruckWhile y = Check.ones(5);
        Check.square(y, "heat 50 p=0");
        y.see(0, 1, false);
        heats(y, 0, 0, -5);
    }

    static void promise18_only_v_9_is_so() {
        StruckWhile x = Stands.alone(4, 0, 41);
        x.see(0, 1, true);
        numbers(x, 0, 1, 9);
        StruckWhile y = Stands.alone(4, 0, 40);
        y.see(0, 1, true);
        numbers(y, 0, 0, -5);
    }

    static void promise18_only_v_0_is_so() {
        StruckWhile x = Stands.alone(4, 9, 49);
        x.see(0, 1, false);
        numbers(x, 0, 1, 0);
        StruckWhile y = Stands.alone(4, 9, 53);
        y.see(0, 1, false);
        numbers(y, 0, 0, -5);
    }

    static void promise18_behind_12_MINUTES() {
        StruckWhile x = Check.ones(5);
        Check.square(x, "heat 4 p=0");
        x.see(0, 12, true);
        heats(x, 0, 98, 2);
        StruckWhile y = Check.ones(5);
        Check.square(y, "heat 4 p=0");
        y.see(0, 11, true);
        heats(y, 0, 94, 6);
    }

    static void promise18_all_of_five_rows() {
        StruckWhile x = Check.ones(5);
        Check.square(x, "heat 10 p=0");
        x.see(0, 0, false);
        x.see(0, 1, false);
        x.see(0, 2, false);
        x.see(0, 4, true);
        heats(x, 0, 20, 10);
        x.see(0, 3, false);
        heats(x, 0, 10, 10);
    }

    static void promise18_nothing_is_ON_THE_ANVIL() {
        StruckWhile x = Check.ones(60);
        x.work(500, 5);
        x.anvil(0);
        x.see(0, 3, true);
        heats(x, 0, 50, 50);
        numbers(x, 0, 10, 0);
        due(0, x.told(2));
    }

    static void promise18_MINUTES_SEEN_are_counted_from_now_whenever_it_is_asked() {
        StruckWhile x = Check.ones(5);
        Check.square(x, "heat 10 m=1");
        x.see(0, 2, true);
        heats(x, 0, 60, 40);
        Stands.later(x, 2);
        heats(x, 0, 50, 50);
        Stands.later(x, 9);
        heats(x, 0, 60, 40);
    }

    static void promise18_of_one_by_what_is_SEEN_of_another() {
        StruckWhile x = Check.ones(40, 10);
        x.see(0, 1, true);
        heats(x, 1, 20, 80);
        heats(x, 0, 50, 50);
    }

    static void promise18_of_one_AWAY() {
        StruckWhile x = Check.ones(40);
        Check.square(x, "heat 9 p=0");
        x.see(0, 12, true);
        x.away(0, true);
        heats(x, 0, 50, 50);
        numbers(x, 0, 0, -5);
    }

    static void promise18_it_goes_on_beyond_MINUTE_9999() {
        StruckWhile x = Stands.last();
        x.one(0, 0, 0);
        Check.square(x, "heat 1 m=9;heat 2 m=0");
        x.see(0, 1, true);
        heats(x, 0, 51, 49);
        x.see(-1, 0, true);
        x.see(0, 2, true);
        heats(x, 0, 53, 47);
        due(9999, x.told(0));
    }

    static void promise18_what_is_asked_changes_nothing() {
        for (int which = -1; which <= 2; which++) {
            for (int what = -1; what <= 2; what++) {
                int asked = which;
                int of = what;
                asksOnly(x -> x.can(2, asked, of));
                asksOnly(x -> x.can(6, asked, of));
            }
        }
    }

    // ---- 19: odds

    private static void odds(StruckWhile x, int person, int n, long above, long below) {
        due(above, x.odds(person, n, 0));
        due(below, x.odds(person, n, 1));
    }

    static void promise19_no_such_one() {
        StruckWhile x = Check.ones(5, 6);
        odds(x, -1, 0, NO, NO);
        odds(x, 2, 0, NO, NO);
        odds(x, MIN, 0, NO, NO);
        odds(x, MAX, 0, NO, NO);
        odds(new StruckWhile(), 0, 0, NO, NO);
        odds(Stands.full(), 6, 0, NO, NO);
    }

    static void promise19_n_0_is_taken_and_what_is_below_is_not() {
        StruckWhile x = Check.ones(30);
        odds(x, 0, 0, 1, 1);
        odds(x, 0, -1, NO, NO);
        odds(x, 0, MIN, NO, NO);
    }

    static void promise19_n_20_is_taken_and_what_is_above_is_not() {
        StruckWhile x = Check.ones(10);
        Check.square(x, "heat 1 p=0");
        odds(x, 0, 19, 0, 1);
        odds(x, 0, 20, 1, 1);
        odds(x, 0, 21, NO, NO);
        odds(x, 0, MAX, NO, NO);
    }

    static void promise19_part_0_and_1_and_no_other() {
        StruckWhile x = Check.ones(30, 30);
        due(1, x.odds(0, 0, 0));
        due(2, x.odds(0, 0, 1));
        due(NO, x.odds(0, 0, -1));
        due(NO, x.odds(0, 0, 2));
        due(NO, x.odds(0, 0, MIN));
        due(NO, x.odds(0, 0, MAX));
    }

    static void promise19_all_are_AWAY() {
        StruckWhile x = Check.ones(60, 60);
        Stands.allAway(x, true);
        odds(x, 0, 0, NO, NO);
        odds(x, 1, 20, NO, NO);
        x.away(1, false);
        odds(x, 0, 0, 1, 1);
    }

    /** Whoever is hot makes those next to it hot in the next MINUTE: 0 gets hot by one more of them each MINUTE. */
    static void promise19_lowest_terms() {
        StruckWhile x = Check.ones(30, 30, 30, 30, 30, 30);
        Check.square(x, "heat 50 n>0;spark 99");
        odds(x, 0, 0, 1, 6);
        odds(x, 0, 1, 1, 3);
        odds(x, 0, 2, 1, 2);
        odds(x, 0, 3, 2, 3);
        odds(x, 0, 4, 5, 6);
        odds(x, 0, 5, 1, 1);
        odds(Check.ones(0, 0, 0, 0, 0, 0), 0, 20, 0, 1);
    }

    static void promise19_hot_by_20_more_from_30_on_and_not_from_29_on() {
        odds(Check.ones(30), 0, 0, 1, 1);
        odds(Check.ones(29), 0, 0, 0, 1);
    }

    static void promise19_99_at_most_now() {
        StruckWhile x = Check.ones(85);
        Check.square(x, "calm 5 p=0");
        odds(x, 0, 9, 1, 1);
        odds(x, 0, 10, 0, 1);
    }

    static void promise19_those_AWAY_are_not_among_them() {
        StruckWhile x = Check.ones(30, 0, 0);
        odds(x, 0, 0, 1, 3);
        x.away(2, true);
        odds(x, 0, 0, 1, 2);
        x.away(1, true);
        odds(x, 0, 0, 1, 1);
    }

    static void promise19_the_told_one_may_be_AWAY() {
        StruckWhile x = Check.ones(30, 0);
        x.away(0, true);
        odds(x, 0, 0, 0, 1);
        x.heat(0, 50);
        odds(x, 0, 20, 1, 1);
    }

    static void promise19_nothing_is_ON_THE_ANVIL() {
        StruckWhile x = Check.ones(60);
        x.work(500, 5);
        x.anvil(0);
        odds(x, 0, 5, 1, 1);
        due(0, x.told(2));
    }

    static void promise19_a_spark_by_60_and_none_by_59() {
        odds(Check.ones(60, 40), 1, 1, 1, 1);
        odds(Check.ones(59, 40), 1, 1, 1, 2);
    }

    static void promise19_it_goes_on_beyond_MINUTE_9999() {
        StruckWhile x = Stands.last();
        x.one(0, 0, 27);
        Check.square(x, "heat 1 m=9;heat 2 m=0");
        odds(x, 0, 1, 0, 1);
        odds(x, 0, 2, 1, 1);
        due(9999, x.told(0));
    }

    static void promise19_what_is_asked_changes_nothing() {
        for (int n : new int[] {-1, 0, 20, 21}) {
            for (int part = -1; part <= 2; part++) {
                int asked = part;
                asksOnly(x -> x.odds(2, n, asked));
                asksOnly(x -> x.odds(6, n, asked));
            }
        }
    }

    // ---- 20: mean

    private static void mean(StruckWhile x, int n, long above, long below) {
        due(above, x.mean(n, 0));
        due(below, x.mean(n, 1));
    }

    static void promise20_n_0_is_taken_and_what_is_below_is_not() {
        StruckWhile x = Check.ones(30);
        mean(x, 0, 30, 1);
        mean(x, -1, NO, NO);
        mean(x, MIN, NO, NO);
    }

    static void promise20_n_60_is_taken_and_what_is_above_is_not() {
        StruckWhile x = Check.ones(10);
        Check.square(x, "heat 1 p=0");
        mean(x, 59, 69, 1);
        mean(x, 60, 70, 1);
        mean(x, 61, NO, NO);
        mean(x, MAX, NO, NO);
    }

    static void promise20_part_0_and_1_and_no_other() {
        StruckWhile x = Check.ones(1, 2);
        mean(x, 0, 3, 2);
        due(NO, x.mean(0, -1));
        due(NO, x.mean(0, 2));
        due(NO, x.mean(0, MIN));
        due(NO, x.mean(0, MAX));
    }

    static void promise20_there_are_none() {
        mean(new StruckWhile(), 0, NO, NO);
        mean(new StruckWhile(), 60, NO, NO);
    }

    static void promise20_all_of_HEAT_0() {
        mean(Check.ones(0), 0, 0, 1);
        mean(Check.ones(0, 0, 0, 0, 0, 0), 60, 0, 1);
    }

    static void promise20_lowest_terms() {
        mean(Check.ones(1, 0, 0, 0, 0, 0), 0, 1, 6);
        mean(Check.ones(2, 0, 0, 0, 0, 0), 0, 1, 3);
        mean(Check.ones(3, 0, 0, 0, 0, 0), 0, 1, 2);
        mean(Check.ones(4, 0, 0, 0, 0, 0), 0, 2, 3);
        mean(Check.ones(5, 0, 0, 0, 0, 0), 0, 5, 6);
        mean(Check.ones(6, 0, 0, 0, 0, 0), 0, 1, 1);
        mean(Check.ones(7, 0, 0, 0, 0, 0), 0, 7, 6);
        mean(Check.ones(2, 0, 0, 0), 0, 1, 2);
        mean(Check.ones(99, 99, 99, 99, 99, 99), 0, 99, 1);
    }

    static void promise20_those_AWAY_count() {
        StruckWhile x = Check.ones(1, 2);
        Stands.allAway(x, true);
        mean(x, 60, 3, 2);
    }

    static void promise20_it_goes_on_with_what_is_ON_THE_ANVIL_now() {
        StruckWhile x = Check.ones(30, 20);
        x.work(500, 5);
        x.anvil(0);
        mean(x, 1, 10, 1);
        mean(x, 2, 0, 1);
        x.anvil(-1);
        mean(x, 2, 25, 1);
    }

    static void promise20_it_goes_on_beyond_MINUTE_9999() {
        StruckWhile x = Stands.last();
        x.one(0, 0, 0);
        Check.square(x, "heat 1 m=9;heat 2 m=0");
        mean(x, 1, 1, 1);
        mean(x, 2, 3, 1);
        due(9999, x.told(0));
    }

    static void promise20_what_is_asked_changes_nothing() {
        for (int n : new int[] {-1, 0, 60, 61}) {
            for (int part = -1; part <= 2; part++) {
                int asked = part;
                asksOnly(x -> x.mean(n, asked));
            }
        }
    }
}
