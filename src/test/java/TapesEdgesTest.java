/** Edges of promises 32 to 35: tape, item, read, shift. */
public final class TapesEdgesTest extends Edges {
    private static final int MIN = Integer.MIN_VALUE, MAX = Integer.MAX_VALUE;
    private static final long NO = StruckWhile.NO;
    private static final int BYTES = 0, SHORTS = 1, INTS = 2, LONGS = 3, BOOLEANS = 4;

    public static void main(String[] args) throws Exception {
        run(TapesEdgesTest.class, 32, 33, 34, 35);
    }

    // ---- 32: tape

    static void promise32_TAPE_0_is_taken_and_what_is_below_is_NONE() {
        StruckWhile x = new StruckWhile();
        due(-1, x.tape(-1, INTS, 5));
        due(-1, x.tape(MIN, INTS, 5));
        due(1, x.tape(0, INTS, 5));
        due(0, x.read(0, 4));
    }

    static void promise32_TAPE_5_is_taken_and_what_is_above_is_NONE() {
        StruckWhile x = new StruckWhile();
        due(-1, x.tape(6, INTS, 5));
        due(-1, x.tape(MAX, INTS, 5));
        due(1, x.tape(5, INTS, 5));
        due(0, x.read(5, 4));
    }

    static void promise32_sort_0_is_taken_and_what_is_below_minus_1_is_BAD() {
        StruckWhile x = new StruckWhile();
        due(-2, x.tape(0, -2, 5));
        due(-2, x.tape(0, MIN, 5));
        due(1, x.tape(0, BYTES, 5));
    }

    static void promise32_sort_4_is_taken_and_what_is_above_is_BAD() {
        StruckWhile x = new StruckWhile();
        due(-2, x.tape(0, 5, 5));
        due(-2, x.tape(0, MAX, 5));
        due(1, x.tape(0, BOOLEANS, 5));
    }

    static void promise32_n_60_is_taken_and_what_is_above_is_BAD() {
        StruckWhile x = new StruckWhile();
        for (int sort = 0; sort <= 4; sort++) {
            due(-2, x.tape(sort, sort, 61));
            due(-2, x.tape(sort, sort, MAX));
            due(1, x.tape(sort, sort, 60));
            due(0, x.read(sort, 59));
            due(NO, x.read(sort, 60));
        }
    }

    static void promise32_n_0_is_taken_and_what_is_below_is_SIZE() {
        StruckWhile x = new StruckWhile();
        for (int sort = 0; sort <= 4; sort++) {
            due(-14, x.tape(sort, sort, -1));
            due(-14, x.tape(sort, sort, MIN));
            due(-11, x.item(sort, 0, 1));
            due(1, x.tape(sort, sort, 0));
            due(-13, x.item(sort, 0, 1));
        }
    }

    static void promise32_by_sort_minus_1_n_does_not_matter() {
        for (int n : new int[] {MIN, -1, 0, 60, 61, MAX}) {
            StruckWhile x = new StruckWhile();
            x.tape(0, INTS, 5);
            due(1, x.tape(0, -1, n));
            due(-11, x.item(0, 0, 1));
            due(NO, x.read(0, 0));
        }
    }

    static void promise32_by_sort_minus_1_what_holds_nothing_does_so_again() {
        StruckWhile x = new StruckWhile();
        due(1, x.tape(0, -1, 0));
        due(1, x.tape(0, -1, 0));
        due(-11, x.item(0, 0, 1));
    }

    static void promise32_all_is_0_also_where_something_stood() {
        StruckWhile x = new StruckWhile();
        for (int sort = 0; sort <= 4; sort++) {
            x.tape(0, sort, 60);
            for (int i = 0; i < 60; i += 59) {
                due(0, x.read(0, i));
                x.item(0, i, 1);
                due(1, x.read(0, i));
            }
        }
        x.tape(0, INTS, 1);
        x.tape(0, INTS, 60);
        due(0, x.read(0, 59));
        x.item(0, 3, 9);
        x.tape(0, -1, 0);
        x.tape(0, INTS, 4);
        due(0, x.read(0, 3));
    }

    static void promise32_the_same_again_is_all_0() {
        StruckWhile x = new StruckWhile();
        x.tape(0, INTS, 2);
        x.item(0, 1, 9);
        due(1, x.tape(0, INTS, 2));
        due(0, x.read(0, 1));
    }

    static void promise32_NONE_comes_ahead_of_BAD_and_SIZE() {
        StruckWhile x = new StruckWhile();
        due(-1, x.tape(6, 5, 61));
        due(-1, x.tape(-1, 0, -1));
        due(-1, x.tape(6, -1, 0));
    }

    static void promise32_BAD_comes_ahead_of_SIZE() {
        StruckWhile x = new StruckWhile();
        due(-2, x.tape(0, 5, -1));
        due(-2, x.tape(0, -2, -1));
        due(-2, x.tape(0, -2, MIN));
    }

    static void promise32_NONE_changes_nothing() {
        changesNothing(-1, x -> x.tape(-1, INTS, 5));
        changesNothing(-1, x -> x.tape(6, INTS, 5));
        changesNothing(-1, x -> x.tape(6, -1, 5));
    }

    static void promise32_BAD_changes_nothing() {
        changesNothing(-2, x -> x.tape(0, 5, 5));
        changesNothing(-2, x -> x.tape(1, -2, 5));
        changesNothing(-2, x -> x.tape(4, INTS, 61));
    }

    static void promise32_SIZE_changes_nothing() {
        changesNothing(-14, x -> x.tape(0, BYTES, -1));
        changesNothing(-14, x -> x.tape(3, INTS, MIN));
    }

    // ---- 33: item

    /** TAPE 0 is a row of four of a sort, TAPE 1 a row of none. */
    private static StruckWhile four(int sort) {
        StruckWhile x = new StruckWhile();
        x.tape(0, sort, 4);
        x.tape(1, sort, 0);
        return x;
    }

    static void promise33_no_such_TAPE() {
        StruckWhile x = four(INTS);
        due(-1, x.item(-1, 0, 1));
        due(-1, x.item(6, 0, 1));
        due(-1, x.item(MIN, 0, 1));
        due(-1, x.item(MAX, 0, 1));
    }

    static void promise33_the_first_TAPE_and_the_last() {
        StruckWhile x = four(INTS);
        x.tape(5, INTS, 4);
        due(1, x.item(0, 0, 7));
        due(1, x.item(5, 0, 8));
        due(7, x.read(0, 0));
        due(8, x.read(5, 0));
    }

    static void promise33_a_TAPE_that_holds_nothing_is_NOTHING() {
        StruckWhile x = four(INTS);
        due(-11, x.item(2, 0, 1));
        x.tape(0, -1, 0);
        due(-11, x.item(0, 0, 1));
    }

    static void promise33_place_0_is_taken_and_what_is_below_is_PLACE() {
        StruckWhile x = four(INTS);
        due(-13, x.item(0, -1, 7));
        due(-13, x.item(0, MIN, 7));
        due(1, x.item(0, 0, 7));
        due(7, x.read(0, 0));
        due(0, x.read(0, 1));
    }

    static void promise33_the_last_place_is_taken_and_what_is_behind_is_PLACE() {
        StruckWhile x = four(INTS);
        due(-13, x.item(0, 4, 7));
        due(-13, x.item(0, 59, 7));
        due(-13, x.item(0, MAX, 7));
        due(1, x.item(0, 3, 7));
        due(7, x.read(0, 3));
        due(0, x.read(0, 2));
    }

    static void promise33_a_row_of_none_has_no_place() {
        due(-13, four(INTS).item(1, 0, 7));
        due(-13, four(INTS).item(1, -1, 7));
    }

    static void promise33_NONE_comes_ahead_of_PLACE() {
        due(-1, four(INTS).item(6, -1, 7));
    }

    static void promise33_NOTHING_comes_ahead_of_PLACE() {
        due(-11, four(INTS).item(2, -1, 7));
        due(-11, four(INTS).item(2, 60, 7));
    }

    /** Item 2 becomes a value: then it is this. */
    private static void becomes(int sort, long v, long want) {
        StruckWhile x = four(sort);
        due(1, x.item(0, 2, v));
        due(want, x.read(0, 2));
    }

    static void promise33_bytes_keep_8_bits() {
        becomes(BYTES, 127, 127);
        becomes(BYTES, 128, -128);
        becomes(BYTES, 255, -1);
        becomes(BYTES, 256, 0);
        becomes(BYTES, -128, -128);
        becomes(BYTES, -129, 127);
        becomes(BYTES, Long.MAX_VALUE, -1);
        becomes(BYTES, Long.MIN_VALUE, 0);
    }

    static void promise33_shorts_keep_16_bits() {
        becomes(SHORTS, 32767, 32767);
        becomes(SHORTS, 32768, -32768);
        becomes(SHORTS, 65535, -1);
        becomes(SHORTS, 65536, 0);
        becomes(SHORTS, -32768, -32768);
        becomes(SHORTS, -32769, 32767);
        becomes(SHORTS, Long.MAX_VALUE, -1);
        becomes(SHORTS, Long.MIN_VALUE, 0);
    }

    static void promise33_ints_keep_32_bits() {
        becomes(INTS, MAX, MAX);
        becomes(INTS, MAX + 1L, MIN);
        becomes(INTS, (1L << 32) - 1, -1);
        becomes(INTS, 1L << 32, 0);
        becomes(INTS, MIN, MIN);
        becomes(INTS, MIN - 1L, MAX);
        becomes(INTS, Long.MAX_VALUE, -1);
        becomes(INTS, Long.MIN_VALUE, 0);
    }

    static void promise33_longs_keep_all() {
        becomes(LONGS, Long.MAX_VALUE, Long.MAX_VALUE);
        becomes(LONGS, Long.MIN_VALUE + 1, Long.MIN_VALUE + 1);
        becomes(LONGS, Long.MIN_VALUE, Long.MIN_VALUE);
        becomes(LONGS, 1L << 32, 1L << 32);
    }

    static void promise33_booleans_are_whether_v_is_not_0() {
        becomes(BOOLEANS, 0, 0);
        becomes(BOOLEANS, 1, 1);
        becomes(BOOLEANS, 2, 1);
        becomes(BOOLEANS, -1, 1);
        becomes(BOOLEANS, 256, 1);
        becomes(BOOLEANS, 1L << 32, 1);
        becomes(BOOLEANS, Long.MIN_VALUE, 1);
        StruckWhile x = four(BOOLEANS);
        x.item(0, 1, 5);
        x.item(0, 1, 0);
        due(0, x.read(0, 1));
    }

    static void promise33_NONE_changes_nothing() {
        changesNothing(-1, x -> x.item(-1, 0, 7));
        changesNothing(-1, x -> x.item(6, 0, 7));
    }

    static void promise33_NOTHING_changes_nothing() {
        changesNothing(-11, StruckWhile::new, x -> x.item(0, 0, 7));
        changesNothing(-11, Stands::some, x -> x.item(5, 0, 7));
    }

    static void promise33_PLACE_changes_nothing() {
        changesNothing(-13, Stands::some, x -> x.item(0, 3, 7));
        changesNothing(-13, Stands::some, x -> x.item(0, -1, 7));
        changesNothing(-13, Stands::full, x -> x.item(5, 60, 7));
    }

    // ---- 34: read

    static void promise34_no_such_TAPE() {
        StruckWhile x = four(INTS);
        due(NO, x.read(-1, 0));
        due(NO, x.read(6, 0));
        due(NO, x.read(MIN, 0));
        due(NO, x.read(MAX, 0));
    }

    static void promise34_a_TAPE_that_holds_nothing() {
        StruckWhile x = four(INTS);
        due(NO, x.read(2, 0));
        x.tape(0, -1, 0);
        due(NO, x.read(0, 0));
    }

    static void promise34_place_0_is_there_and_what_is_below_is_not() {
        StruckWhile x = four(INTS);
        due(0, x.read(0, 0));
        due(NO, x.read(0, -1));
        due(NO, x.read(0, MIN));
    }

    static void promise34_the_last_place_is_there_and_what_is_behind_is_not() {
        StruckWhile x = four(INTS);
        due(0, x.read(0, 3));
        due(NO, x.read(0, 4));
        due(NO, x.read(0, 59));
        due(NO, x.read(0, MAX));
    }

    static void promise34_a_row_of_none_has_no_place() {
        due(NO, four(INTS).read(1, 0));
    }

    static void promise34_a_shorter_row_has_no_places_of_the_longer_one_before() {
        StruckWhile x = four(INTS);
        x.item(0, 3, 9);
        x.tape(0, INTS, 3);
        due(NO, x.read(0, 3));
    }

    static void promise34_what_is_asked_changes_nothing() {
        for (int t = -1; t <= 6; t++) {
            int asked = t;
            asksOnly(x -> x.read(asked, -1));
            asksOnly(x -> x.read(asked, 0));
            asksOnly(x -> x.read(asked, 59));
            asksOnly(x -> x.read(asked, 60));
        }
    }

    // ---- 35: shift

    private static void fill(StruckWhile x, int tape, int sort, int... items) {
        x.tape(tape, sort, items.length);
        for (int i = 0; i < items.length; i++) {
            x.item(tape, i, items[i]);
        }
    }

    /** TAPES 0 and 5 are ints: 1 2 3 and 4 5 6 7; TAPE 1 is longs: 8 9; TAPE 2 is a row of no ints; the others hold nothing. */
    private static StruckWhile rows() {
        StruckWhile x = new StruckWhile();
        fill(x, 0, INTS, 1, 2, 3);
        fill(x, 5, INTS, 4, 5, 6, 7);
        fill(x, 1, LONGS, 8, 9);
        fill(x, 2, INTS);
        return x;
    }

    private static void itemsAre(StruckWhile x, int tape, int... want) {
        for (int i = 0; i < want.length; i++) {
            due(want[i], x.read(tape, i));
        }
        due(NO, x.read(tape, want.length));
    }

    static void promise35_no_such_TAPE_on_either_side() {
        for (int none : new int[] {MIN, -1, 6, MAX}) {
            due(-1, rows().shift(none, 0, 0, 0, 1));
            due(-1, rows().shift(0, 0, none, 0, 1));
            due(-1, rows().shift(none, 0, none, 0, 1));
        }
    }

    static void promise35_a_TAPE_that_holds_nothing_on_either_side() {
        due(-11, rows().shift(3, 0, 0, 0, 0));
        due(-11, rows().shift(0, 0, 3, 0, 0));
        due(-11, rows().shift(3, 0, 3, 0, 0));
        due(-11, rows().shift(3, 0, 4, 0, 0));
    }

    static void promise35_unlike_sorts_are_CAST() {
        due(-12, rows().shift(0, 0, 1, 0, 1));
        due(-12, rows().shift(1, 0, 0, 0, 1));
        due(-12, rows().shift(0, 0, 1, 0, 0));
        due(-12, rows().shift(2, 0, 1, 0, 0));
    }

    static void promise35_each_two_sorts_are_unlike() {
        for (int sort = 0; sort <= 4; sort++) {
            for (int other = 0; other <= 4; other++) {
                StruckWhile x = new StruckWhile();
                x.tape(0, sort, 1);
                x.tape(1, other, 1);
                due(sort == other ? 1 : -12, x.shift(0, 0, 1, 0, 1));
            }
        }
    }

    static void promise35_n_0_is_taken_and_what_is_below_is_PLACE() {
        due(0, rows().shift(0, 0, 5, 0, 0));
        due(-13, rows().shift(0, 0, 5, 0, -1));
        due(-13, rows().shift(0, 1, 5, 1, -1));
        due(-13, rows().shift(0, 0, 5, 0, MIN));
    }

    static void promise35_i_0_is_taken_and_what_is_below_is_PLACE() {
        due(1, rows().shift(0, 0, 5, 0, 1));
        due(-13, rows().shift(0, -1, 5, 0, 1));
        due(-13, rows().shift(0, -1, 5, 0, 0));
        due(-13, rows().shift(0, MIN, 5, 0, 1));
        due(-13, rows().shift(0, MIN, 5, 0, 0));
    }

    static void promise35_j_0_is_taken_and_what_is_below_is_PLACE() {
        due(1, rows().shift(0, 0, 5, 0, 1));
        due(-13, rows().shift(0, 0, 5, -1, 1));
        due(-13, rows().shift(0, 0, 5, -1, 0));
        due(-13, rows().shift(0, 0, 5, MIN, 1));
        due(-13, rows().shift(0, 0, 5, MIN, 0));
    }

    static void promise35_up_to_the_end_it_comes_from_and_not_beyond() {
        due(3, rows().shift(0, 0, 5, 0, 3));
        due(-13, rows().shift(0, 0, 5, 0, 4));
        due(2, rows().shift(0, 1, 5, 0, 2));
        due(-13, rows().shift(0, 1, 5, 0, 3));
        due(-13, rows().shift(0, MAX, 5, 0, 1));
        due(-13, rows().shift(0, 1, 5, 0, MAX));
    }

    static void promise35_up_to_the_end_it_goes_to_and_not_beyond() {
        due(3, rows().shift(5, 0, 0, 0, 3));
        due(-13, rows().shift(5, 0, 0, 0, 4));
        due(2, rows().shift(5, 0, 0, 1, 2));
        due(-13, rows().shift(5, 0, 0, 1, 3));
        due(-13, rows().shift(5, 0, 0, MAX, 1));
    }

    static void promise35_none_at_the_end_itself_and_not_behind_it() {
        due(0, rows().shift(0, 3, 5, 0, 0));
        due(-13, rows().shift(0, 4, 5, 0, 0));
        due(0, rows().shift(0, 0, 5, 4, 0));
        due(-13, rows().shift(0, 0, 5, 5, 0));
        due(0, rows().shift(0, 3, 5, 4, 0));
        due(-13, rows().shift(0, MAX, 5, MAX, 0));
    }

    static void promise35_a_row_of_none() {
        due(0, rows().shift(2, 0, 2, 0, 0));
        due(0, rows().shift(2, 0, 0, 3, 0));
        due(0, rows().shift(0, 0, 2, 0, 0));
        due(-13, rows().shift(2, 0, 0, 0, 1));
        due(-13, rows().shift(0, 0, 2, 0, 1));
        due(-13, rows().shift(2, 1, 0, 0, 0));
    }

    static void promise35_sums_that_would_wrap_are_beyond_the_end() {
        due(-13, rows().shift(0, MAX, 5, 0, MAX));
        due(-13, rows().shift(0, 0, 5, MAX, MAX));
        due(-13, rows().shift(0, 2, 5, 2, MAX));
        due(-13, rows().shift(0, MAX, 5, MAX, 2));
    }

    static void promise35_NONE_comes_ahead_of_NOTHING() {
        due(-1, rows().shift(3, 0, 6, 0, 1));
        due(-1, rows().shift(6, 0, 3, 0, 1));
    }

    static void promise35_NOTHING_comes_ahead_of_PLACE() {
        due(-11, rows().shift(3, -1, 0, 0, 1));
        due(-11, rows().shift(0, 0, 3, 0, -1));
    }

    static void promise35_CAST_comes_ahead_of_PLACE() {
        due(-12, rows().shift(0, -1, 1, 0, 1));
        due(-12, rows().shift(0, 0, 1, 9, 1));
        due(-12, rows().shift(0, 0, 1, 0, -1));
    }

    static void promise35_all_of_60() {
        StruckWhile x = new StruckWhile();
        x.tape(0, BYTES, 60);
        x.tape(1, BYTES, 60);
        x.item(0, 0, 5);
        x.item(0, 59, 6);
        due(60, x.shift(0, 0, 1, 0, 60));
        due(5, x.read(1, 0));
        due(6, x.read(1, 59));
        due(-13, x.shift(0, 0, 1, 0, 61));
    }

    static void promise35_those_beside_stay() {
        StruckWhile x = rows();
        due(1, x.shift(0, 1, 5, 2, 1));
        itemsAre(x, 0, 1, 2, 3);
        itemsAre(x, 5, 4, 5, 2, 7);
    }

    static void promise35_the_same_TAPE_toward_the_end_as_they_all_were_before() {
        StruckWhile x = rows();
        due(3, x.shift(5, 0, 5, 1, 3));
        itemsAre(x, 5, 4, 4, 5, 6);
    }

    static void promise35_the_same_TAPE_toward_the_beginning_as_they_all_were_before() {
        StruckWhile x = rows();
        due(3, x.shift(5, 1, 5, 0, 3));
        itemsAre(x, 5, 5, 6, 7, 7);
    }

    static void promise35_the_same_TAPE_to_the_same_place_changes_nothing() {
        StruckWhile x = rows();
        due(4, x.shift(5, 0, 5, 0, 4));
        itemsAre(x, 5, 4, 5, 6, 7);
    }

    static void promise35_0_items_change_nothing() {
        changesNothing(0, Stands::some, x -> x.shift(0, 3, 0, 0, 0));
        changesNothing(0, Stands::full, x -> x.shift(1, 0, 1, 4, 0));
    }

    static void promise35_NONE_changes_nothing() {
        changesNothing(-1, x -> x.shift(6, 0, 0, 0, 1));
        changesNothing(-1, x -> x.shift(0, 0, -1, 0, 1));
    }

    static void promise35_NOTHING_changes_nothing() {
        changesNothing(-11, StruckWhile::new, x -> x.shift(0, 0, 1, 0, 1));
        changesNothing(-11, Stands::some, x -> x.shift(5, 0, 0, 0, 1));
        changesNothing(-11, Stands::some, x -> x.shift(0, 0, 5, 0, 1));
    }

    static void promise35_CAST_changes_nothing() {
        changesNothing(-12, Stands::some, x -> x.shift(0, 0, 1, 0, 1));
        changesNothing(-12, Stands::full, x -> x.shift(4, 0, 2, 0, 1));
    }

    static void promise35_PLACE_changes_nothing() {
        changesNothing(-13, Stands::some, x -> x.shift(0, 0, 0, 1, 3));
        changesNothing(-13, Stands::some, x -> x.shift(0, 1, 0, 0, 3));
        changesNothing(-13, Stands::full, x -> x.shift(0, 0, 5, 58, 3));
        changesNothing(-13, Stands::full, x -> x.shift(5, 59, 5, 0, 2));
    }
}
