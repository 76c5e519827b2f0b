import java.util.function.Supplier;

/** Edges of promises 10 to 12: feed, square, told. */
public final class SquareEdgesTest extends Edges {
    private static final int MIN = Integer.MIN_VALUE, MAX = Integer.MAX_VALUE;

    public static void main(String[] args) throws Exception {
        run(SquareEdgesTest.class, 10, 11, 12);
    }

    // ---- 10: feed

    static void promise10_0_is_taken_and_what_is_below_is_BAD() {
        StruckWhile x = new StruckWhile();
        due(-2, x.feed(-1));
        due(-2, x.feed(MIN));
        due(1, x.feed(0));
    }

    static void promise10_127_is_taken_and_what_is_above_is_BAD() {
        StruckWhile x = new StruckWhile();
        due(-2, x.feed(128));
        due(-2, x.feed(MAX));
        due(1, x.feed(127));
    }

    static void promise10_the_hundredth_is_taken_and_one_more_is_FULL() {
        StruckWhile x = new StruckWhile();
        for (int n = 1; n <= 100; n++) {
            due(n, x.feed('h'));
        }
        due(-4, x.feed('h'));
        due(100, x.count(6));
    }

    static void promise10_BAD_comes_ahead_of_FULL() {
        due(-2, Stands.fullText().feed(-1));
        due(-2, Stands.fullText().feed(128));
    }

    static void promise10_THE_TEXT_begins_again_behind_a_SQUARE_and_behind_a_FAULT() {
        StruckWhile x = new StruckWhile();
        Check.square(x, "spark 5");
        due(1, x.feed('x'));
        due(2, x.feed('x'));
        due(-10, x.square());
        due(1, x.feed('h'));
    }

    static void promise10_BAD_changes_nothing() {
        changesNothing(-2, x -> x.feed(-1));
        changesNothing(-2, x -> x.feed(128));
    }

    static void promise10_FULL_changes_nothing() {
        changesNothing(-4, Stands::fullText, x -> x.feed('h'));
        changesNothing(-4, Stands::fullText, x -> x.feed(0));
    }

    // ---- 11: square, how many

    static void promise11_the_first_is_0_the_sixth_is_5_and_a_seventh_is_FULL() {
        StruckWhile x = new StruckWhile();
        for (int number = 0; number <= 5; number++) {
            due(number, Check.square(x, "spark " + number));
            due(number, x.told(1));
        }
        due(-4, Check.square(x, "spark 9"));
        due(5, x.told(1));
        due(6, x.count(2));
    }

    static void promise11_FULL_comes_ahead_of_a_FAULT() {
        StruckWhile x = sixSquares();
        due(-4, x.square());
        due(-4, Check.square(x, "x"));
        due(1, x.count(6));
    }

    static void promise11_THE_TEXT_stays_by_FULL_and_more_comes_behind_it() {
        StruckWhile x = Stands.fed(sixSquares(), "spark 9");
        due(-4, x.square());
        due(7, x.count(6));
        due(8, x.feed('1'));
    }

    static void promise11_FULL_changes_nothing() {
        changesNothing(-4, Stands::full, StruckWhile::square);
        changesNothing(-4, SquareEdgesTest::sixSquares, StruckWhile::square);
    }

    static void promise11_a_FAULT_takes_no_number() {
        StruckWhile x = new StruckWhile();
        for (int i = 0; i < 7; i++) {
            due(-10, Check.square(x, "x"));
        }
        due(0, x.count(2));
        due(0, Check.square(x, "spark 5"));
    }

    static void promise11_by_a_FAULT_the_one_that_held_holds() {
        StruckWhile x = Check.ones(0);
        due(0, Check.square(x, "heat 7 p=0;spark 33"));
        due(-10 - 20, Check.square(x, "heat 9 p=0;spark 44;"));
        due(7, x.of(0, 4));
        due(33, x.told(1));
        due(1, x.count(2));
    }

    static void promise11_by_a_FAULT_with_none_that_held_there_is_none() {
        StruckWhile x = Check.ones(0);
        due(-10 - 20, Check.square(x, "heat 9 p=0;spark 44;"));
        due(0, x.of(0, 4));
        due(80, x.told(1));
    }

    static void promise11_by_a_FAULT_THE_TEXT_is_empty_then() {
        StruckWhile x = new StruckWhile();
        due(-12, Check.square(x, "spock 5"));
        due(0, x.count(6));
        due(0, Check.square(x, "spark 5"));
    }

    static void promise11_nothing_stays_of_a_TEXT_with_a_FAULT() {
        StruckWhile x = Check.ones(0);
        due(-10 - 39, Check.square(x, "heat 9 p=1;calm 8 p=1&v<1;spark 44;heat"));
        due(0, Check.square(x, "heat 2 p=0"));
        due(2, x.of(0, 4));
        due(80, x.told(1));
    }

    static void promise11_by_a_SQUARE_THE_TEXT_is_empty_then() {
        StruckWhile x = new StruckWhile();
        due(0, Check.square(x, "spark 5"));
        due(0, x.count(6));
        due(-10, x.square());
    }

    static void promise11_the_newest_holds() {
        StruckWhile x = Check.ones(0);
        Check.square(x, "heat 1 p=0;spark 11");
        due(1, x.of(0, 4));
        Check.square(x, "heat 2 p=0");
        due(2, x.of(0, 4));
        due(80, x.told(1));
    }

    private static StruckWhile sixSquares() {
        StruckWhile x = Check.ones(70, 60);
        for (int i = 1; i <= 6; i++) {
            Check.square(x, "spark " + i);
        }
        return x;
    }

    // ---- 11: square, where the FAULT is

    private static void isSquare(String text) {
        due(0, Check.square(new StruckWhile(), text));
    }

    private static void isFault(int place, String text) {
        due(-10 - place, Check.square(new StruckWhile(), text));
    }

    static void promise11_THE_TEXT_empty_is_a_FAULT_at_0() {
        due(-10, new StruckWhile().square());
    }

    static void promise11_a_FAULT_at_the_first_byte() {
        isFault(0, "x");
        isFault(0, " heat 1 p=0");
        isFault(0, ";heat 1 p=0");
        isFault(0, "Heat 1 p=0");
        isFault(0, "5");
    }

    static void promise11_a_FAULT_at_the_end_if_it_ends_too_early() {
        String whole = "heat 12 !(p=0&k<1)|v>3";
        int[] early = {0, 1, 2, 3, 4, 5, 6, 7, 8, 9, 10, 11, 12, 13, 14, 15, 16, 17, 19, 20, 21};
        for (int length : early) {
            isFault(length, whole.substring(0, length));
        }
        isSquare(whole.substring(0, 18));
        isSquare(whole);
    }

    static void promise11_a_word_ends_too_early_or_goes_wrong() {
        for (String word : new String[] {"heat", "calm", "spark"}) {
            for (int length = 1; length < word.length(); length++) {
                isFault(length, word.substring(0, length));
                isFault(length, word.substring(0, length) + " 1 p=0");
            }
            isFault(word.length(), word);
            isFault(word.length(), word + "s 1 p=0");
        }
    }

    static void promise11_THE_TEXT_of_100_bytes_is_taken() {
        due(100, Stands.hundred().length());
        StruckWhile x = Check.ones(0, 0);
        due(0, Check.square(x, Stands.hundred()));
        due(10, x.of(0, 4));
        due(0, x.of(1, 4));
    }

    static void promise11_a_FAULT_at_the_last_of_100_bytes() {
        isFault(99, "heat 1 p=0" + "&p=0".repeat(22) + "&x");
    }

    static void promise11_a_FAULT_at_the_end_of_100_bytes() {
        isFault(100, "heat 1 p=0" + "&p=0".repeat(22) + "&p");
    }

    static void promise11_the_signs_0_and_127_are_a_FAULT() {
        isFault(0, "\0");
        isFault(0, "\177");
        isFault(4, "heat\0");
        isFault(10, "heat 1 p=0\0");
        isFault(10, "heat 1 p=0\177");
    }

    static void promise11_one_CLAUSE_is_enough_and_ten_are_taken() {
        isSquare("heat 1 p=0");
        isSquare("calm 1 p=0");
        isSquare("spark 1");
        isSquare("spark 0" + ";spark 1".repeat(9));
    }

    static void promise11_behind_ten_CLAUSES_each_byte_is_a_FAULT() {
        String ten = "spark 0" + ";spark 1".repeat(9);
        isFault(79, ten + ";");
        isFault(79, ten + ";spark 1");
        isFault(79, ten + "x");
        isFault(79, ten + " ");
        isFault(80, ten + "1;");
    }

    static void promise11_nine_CLAUSES_and_a_semicolon_end_too_early() {
        isFault(72, "spark 0" + ";spark 1".repeat(8) + ";");
    }

    static void promise11_all_ten_CLAUSES_count() {
        StruckWhile x = Check.ones(0);
        due(0, Check.square(x, "heat 1 p=0" + ";spark 1".repeat(8) + ";heat 5 p=0"));
        due(6, x.of(0, 4));
    }

    static void promise11_a_CLAUSE_that_is_empty_is_a_FAULT() {
        isFault(0, ";");
        isFault(8, "spark 1;");
        isFault(8, "spark 1;;spark 1");
        isFault(8, "spark 1; spark 1");
    }

    static void promise11_one_blank_ahead_of_each_part_not_none_and_not_two() {
        isFault(4, "heat1 p=0");
        isFault(5, "heat  1 p=0");
        isFault(6, "heat 1p=0");
        isFault(7, "heat 1  p=0");
        isFault(4, "calm1 p=0");
        isFault(5, "calm  1 p=0");
        isFault(6, "calm 1p=0");
        isFault(7, "calm 1  p=0");
        isFault(5, "spark1");
        isFault(6, "spark  1");
        isFault(4, "heat\t1 p=0");
    }

    static void promise11_no_blank_anywhere_else() {
        isFault(8, "heat 1 p =0");
        isFault(9, "heat 1 p= 0");
        isFault(10, "heat 1 p=0 ");
        isFault(10, "heat 1 p=0 &p=0");
        isFault(11, "heat 1 p=0& p=0");
        isFault(8, "heat 1 ( p=0)");
        isFault(8, "heat 1 ! p=0");
        isFault(7, "spark 1 ");
        isFault(7, "spark 1 ;spark 1");
    }

    static void promise11_a_number_of_1_and_of_2_digits_is_taken_of_none_and_of_3_is_a_FAULT() {
        isSquare("heat 0 p=0");
        isSquare("heat 99 p=0");
        isSquare("heat 00 p=0");
        isFault(5, "heat  p=0");
        isFault(5, "heat p=0");
        isFault(7, "heat 100 p=0");
        isFault(7, "calm 001 p=0");
        isSquare("spark 0");
        isSquare("spark 99");
        isFault(6, "spark ");
        isFault(8, "spark 100");
        isSquare("heat 1 p=00");
        isSquare("heat 1 p=99");
        isFault(9, "heat 1 p=");
        isFault(11, "heat 1 p=000");
        isFault(5, "heat -1 p=0");
        isFault(5, "heat +1 p=0");
    }

    static void promise11_the_signs_beside_the_digits_are_none() {
        isFault(6, "spark /");
        isFault(6, "spark :");
        isFault(7, "spark 1/");
        isFault(7, "spark 1:");
        isFault(9, "heat 1 p=/");
        isFault(9, "heat 1 p=:");
    }

    static void promise11_each_letter_and_no_other() {
        for (char sign = 0; sign < 128; sign++) {
            String text = "heat 1 " + sign + "=0";
            if ("pkvhnm".indexOf(sign) >= 0) {
                isSquare(text);
            } else {
                isFault(sign == '!' || sign == '(' ? 8 : 7, text);
            }
        }
    }

    static void promise11_each_comparison_and_no_other() {
        for (char sign = 0; sign < 128; sign++) {
            String text = "heat 1 p" + sign + "0";
            if ("<=>".indexOf(sign) >= 0) {
                isSquare(text);
            } else {
                isFault(8, text);
            }
        }
        isFault(9, "heat 1 p<=0");
        isFault(9, "heat 1 p==0");
    }

    static void promise11_within_4_others_a_fifth_is_none() {
        isSquare("heat 1 ((((p=0))))");
        isFault(11, "heat 1 (((((p=0)))))");
        isSquare("heat 1 !!!!p=0");
        isFault(11, "heat 1 !!!!!p=0");
        isSquare("heat 1 (!(!p=0))");
        isFault(11, "heat 1 (!(!(p=0)))");
        isSquare("heat 1 !(!(p=0))");
        isFault(11, "heat 1 !(!(!p=0))");
        isFault(11, "heat 1 !!!!(p=0)");
        isFault(11, "heat 1 ((((!p=0))))");
    }

    static void promise11_what_is_beside_is_not_within() {
        isSquare("heat 1 ((((p=0))))&((((p=0))))");
        isSquare("heat 1 !!!!p=0|!!!!p=0");
        isSquare("heat 1 (((!p=0&!p=1|(p=0))))");
        isSquare("heat 1 (((!p=0&(p=1))))");
        isFault(16, "heat 1 (((!p=0&((p=1)))))");
        isSquare("heat 1 ((((p=0))));heat 1 ((((p=0))))");
    }

    static void promise11_brackets_that_are_not_shut_or_not_open() {
        isFault(11, "heat 1 (p=0");
        isFault(11, "heat 1 (p=0;spark 1");
        isFault(10, "heat 1 p=0)");
        isFault(12, "heat 1 (p=0))");
        isFault(8, "heat 1 ()");
    }

    static void promise11_nothing_beside_an_and_or_an_or() {
        isFault(7, "heat 1 &p=0");
        isFault(7, "heat 1 |p=0");
        isFault(11, "heat 1 p=0&");
        isFault(11, "heat 1 p=0|");
        isFault(11, "heat 1 p=0&&p=0");
        isFault(11, "heat 1 p=0||p=0");
        isFault(11, "heat 1 p=0|&p=0");
        isFault(8, "heat 1 !&p=0");
    }

    static void promise11_spark_has_no_E() {
        isFault(7, "spark 1 p=0");
        isFault(8, "spark 12p=0");
    }

    // ---- 11: what a SQUARE says

    /** Whether E holds of one: its RISE is more with a heat of 50 than with one of 0. */
    private static void says(boolean is, StruckWhile x, int person, String e) {
        Check.square(x, "heat 0 " + e);
        int without = x.of(person, 4);
        Check.square(x, "heat 50 " + e);
        holds(e + " is " + is + " of " + person, x.of(person, 4) > without == is);
    }

    /** By the letter, one has this number: not 1 less and not 1 more. */
    private static void has(int number, Supplier<StruckWhile> made, int person, char letter) {
        says(true, made.get(), person, letter + "=" + number);
        says(false, made.get(), person, letter + "<" + number);
        says(false, made.get(), person, letter + ">" + number);
        says(true, made.get(), person, letter + "<" + (number + 1));
        says(false, made.get(), person, letter + ">" + (number + 1));
        says(false, made.get(), person, letter + "=" + (number + 1));
        if (number > 0) {
            says(true, made.get(), person, letter + ">" + (number - 1));
            says(false, made.get(), person, letter + "<" + (number - 1));
            says(false, made.get(), person, letter + "=" + (number - 1));
        }
    }

    static void promise11_p_is_0_to_5() {
        has(0, () -> Check.ones(0, 0, 0, 0, 0, 0), 0, 'p');
        has(5, () -> Check.ones(0, 0, 0, 0, 0, 0), 5, 'p');
    }

    static void promise11_k_is_0_to_6() {
        for (int kind = 0; kind <= 6; kind++) {
            int k = kind;
            has(k, () -> Stands.alone(k, 0, 0), 0, 'k');
        }
    }

    static void promise11_v_is_0_to_9() {
        has(0, () -> Stands.alone(0, 0, 55), 0, 'v');
        has(9, () -> Stands.alone(0, 9, 55), 0, 'v');
    }

    static void promise11_h_is_HEAT_by_10_cut() {
        int[][] due = {{0, 0}, {9, 0}, {10, 1}, {49, 4}, {50, 5}, {59, 5}, {89, 8}, {90, 9}, {99, 9}};
        for (int[] of : due) {
            has(of[1], () -> Stands.alone(0, 0, of[0]), 0, 'h');
        }
    }

    static void promise11_n_is_0_to_2_of_those_beside_who_are_hot() {
        has(0, () -> Check.ones(49, 99, 49), 1, 'n');
        has(1, () -> Check.ones(50, 0, 49), 1, 'n');
        has(1, () -> Check.ones(49, 0, 50), 1, 'n');
        has(2, () -> Check.ones(50, 0, 50), 1, 'n');
        has(0, () -> Stands.alone(0, 0, 99), 0, 'n');
    }

    static void promise11_n_does_not_count_one_AWAY() {
        has(1, () -> {
            StruckWhile x = Check.ones(99, 0, 99);
            x.away(2, true);
            return x;
        }, 1, 'n');
    }

    static void promise11_m_is_MINUTE_modulo_10() {
        int[][] due = {{0, 0}, {9, 9}, {10, 0}, {19, 9}, {20, 0}, {9999, 9}};
        for (int[] of : due) {
            has(of[1], () -> Stands.later(Check.ones(0), of[0]), 0, 'm');
        }
    }

    static void promise11_a_TEST_by_a_number_that_none_can_have() {
        says(false, Check.ones(99), 0, "h=99");
        says(true, Check.ones(99), 0, "h<99");
        says(false, Check.ones(99), 0, "h>99");
        says(false, Check.ones(99), 0, "h<0");
        says(false, Check.ones(99), 0, "p<0");
        says(true, Check.ones(99), 0, "!p<0");
        says(false, Check.ones(99), 0, "n>2");
        says(false, Check.ones(99), 0, "k>6");
    }

    static void promise11_a_number_with_a_0_ahead_is_the_same() {
        says(true, Stands.alone(0, 7, 0), 0, "v=07");
        says(false, Stands.alone(0, 7, 0), 0, "v=70");
        StruckWhile x = Check.ones(0);
        Check.square(x, "heat 05 p=00;spark 07");
        due(5, x.of(0, 4));
        due(7, x.told(1));
    }

    /** v is 3. */
    private static void saysOfV3(boolean is, String e) {
        says(is, Stands.alone(0, 3, 0), 0, e.replace("t", "v=3").replace("f", "v=4"));
    }

    static void promise11_an_and_binds_ahead_of_an_or() {
        saysOfV3(true, "t|t&f");
        saysOfV3(true, "f&t|t");
        saysOfV3(false, "(t|t)&f");
        saysOfV3(false, "f&(t|t)");
    }

    static void promise11_a_not_binds_ahead_of_an_and() {
        saysOfV3(false, "!t&f");
        saysOfV3(true, "!(t&f)");
        saysOfV3(true, "!f|t");
        saysOfV3(false, "!(f|t)");
    }

    static void promise11_four_nots_and_three() {
        saysOfV3(true, "!!!!t");
        saysOfV3(false, "!!!t");
        saysOfV3(true, "!!t");
        saysOfV3(true, "((((t))))");
        saysOfV3(false, "!(!(f))");
    }

    static void promise11_many_side_by_side() {
        saysOfV3(true, "t" + "&t".repeat(21));
        saysOfV3(false, "t" + "&t".repeat(20) + "&f");
        saysOfV3(false, "f" + "&t".repeat(21));
        saysOfV3(true, "f" + "|f".repeat(20) + "|t");
        saysOfV3(true, "t" + "|f".repeat(21));
        saysOfV3(false, "f" + "|f".repeat(21));
    }

    static void promise11_SUM_is_all_heat_less_all_calm_also_below_0() {
        StruckWhile x = Check.ones(0);
        Check.square(x, "heat 99 p=0;heat 1 p=0;calm 99 p=0;calm 2 p=0");
        due(-1, x.of(0, 4));
        Check.square(x, "calm 99 p=0;calm 99 p=0");
        due(-198, x.of(0, 4));
        Check.square(x, "heat 0 p=0;calm 0 p=0");
        due(0, x.of(0, 4));
    }

    static void promise11_SUM_leaves_out_what_does_not_hold() {
        StruckWhile x = Check.ones(0);
        Check.square(x, "heat 5 p=0;heat 50 p=1;calm 2 p=0;calm 60 p=1");
        due(3, x.of(0, 4));
    }

    // ---- 12: told

    static void promise12_no_such_what() {
        due(-1, Stands.some().told(-1));
        due(-1, Stands.some().told(6));
        due(-1, Stands.some().told(MIN));
        due(-1, Stands.some().told(MAX));
    }

    static void promise12_the_first_what_and_the_last() {
        StruckWhile x = Check.ones(7, 8);
        x.pass(3);
        due(3, x.told(0));
        due(15, x.told(5));
    }

    static void promise12_MINUTE_is_9999_at_most() {
        due(9999, Stands.last().told(0));
    }

    static void promise12_SPARK_is_80_without_one() {
        StruckWhile x = new StruckWhile();
        due(80, x.told(1));
        Check.square(x, "heat 1 p=0");
        due(80, x.told(1));
    }

    static void promise12_SPARK_is_the_last_ones() {
        StruckWhile x = new StruckWhile();
        Check.square(x, "spark 99;spark 0");
        due(0, x.told(1));
        Check.square(x, "spark 0;heat 1 p=0;spark 99;heat 1 p=0");
        due(99, x.told(1));
        Check.square(x, "spark 1" + ";spark 2".repeat(8) + ";spark 3");
        due(3, x.told(1));
    }

    static void promise12_ON_THE_ANVIL_is_minus_5_for_none() {
        StruckWhile x = new StruckWhile();
        x.work(5, 5);
        due(-5, x.told(2));
        x.anvil(0);
        due(0, x.told(2));
        x.anvil(-1);
        due(-5, x.told(2));
    }

    static void promise12_none_is_DONE_and_all_are() {
        StruckWhile x = Check.ones(1, 1, 1, 1);
        for (int w = 0; w < 4; w++) {
            x.work(1, 5);
        }
        due(0, x.told(3));
        int[] due = {1, 3, 7, 15};
        for (int w = 0; w < 4; w++) {
            x.anvil(w);
            x.pass(1);
            due(due[w], x.told(3));
        }
    }

    static void promise12_only_the_last_is_DONE() {
        StruckWhile x = Check.ones(1);
        for (int w = 0; w < 4; w++) {
            x.work(1, 5);
        }
        x.anvil(3);
        x.pass(1);
        due(8, x.told(3));
    }

    static void promise12_of_several_hottest_the_first() {
        due(0, Check.ones(5, 5, 5).told(4));
        due(1, Check.ones(4, 5, 5).told(4));
        due(2, Check.ones(4, 4, 5).told(4));
        due(0, Check.ones(0, 0).told(4));
        due(5, Check.ones(1, 2, 3, 4, 5, 6).told(4));
    }

    static void promise12_the_hottest_is_not_AWAY() {
        StruckWhile x = Check.ones(9, 8, 7);
        x.away(0, true);
        due(1, x.told(4));
        x.away(1, true);
        due(2, x.told(4));
        x.away(2, true);
        due(-5, x.told(4));
    }

    static void promise12_the_hottest_of_nobody_is_minus_5() {
        due(-5, new StruckWhile().told(4));
    }

    static void promise12_HEAT_of_all_takes_those_AWAY_too() {
        due(0, new StruckWhile().told(5));
        StruckWhile x = Check.ones(99, 99, 99, 99, 99, 99);
        due(594, x.told(5));
        Stands.allAway(x, true);
        due(594, x.told(5));
    }

    static void promise12_what_is_asked_changes_nothing() {
        for (int what = -1; what <= 6; what++) {
            int asked = what;
            asksOnly(x -> x.told(asked));
        }
    }
}
