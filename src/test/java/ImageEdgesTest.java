import java.util.List;

/** Edges of promises 25 to 27: judge, image, undo. */
public final class ImageEdgesTest extends Edges {
    private static final int MIN = Integer.MIN_VALUE, MAX = Integer.MAX_VALUE;

    public static void main(String[] args) throws Exception {
        run(ImageEdgesTest.class, 25, 26, 27);
    }

    // ---- 25: judge

    /** TAPE 0 is a row of bytes with these. */
    private static StruckWhile bytes(StruckWhile x, int... items) {
        due(1, x.tape(0, 0, items.length));
        for (int i = 0; i < items.length; i++) {
            due(1, x.item(0, i, items[i]));
        }
        return x;
    }

    static void promise25_no_such_TAPE() {
        StruckWhile x = Check.ones(5);
        due(-1, x.judge(-1, 0));
        due(-1, x.judge(6, 0));
        due(-1, x.judge(MIN, 0));
        due(-1, x.judge(MAX, 0));
    }

    static void promise25_the_first_TAPE_and_the_last() {
        StruckWhile x = Check.ones(5);
        for (int t : new int[] {0, 5}) {
            x.tape(t, 0, 1);
            due(0, x.judge(t, 0));
            x.item(t, 0, 5);
            due(-5, x.judge(t, 0));
        }
    }

    static void promise25_NONE_comes_ahead_of_there_being_nobody() {
        due(-1, new StruckWhile().judge(6, 0));
        due(-1, new StruckWhile().judge(-1, -1));
    }

    static void promise25_each_other_sort_is_CAST() {
        for (int sort = 1; sort <= 4; sort++) {
            StruckWhile x = Check.ones(0);
            x.tape(0, sort, 1);
            due(-12, x.judge(0, 0));
            x.tape(0, sort, 0);
            due(-12, x.judge(0, 0));
        }
    }

    static void promise25_CAST_comes_ahead_of_the_place() {
        StruckWhile x = Check.ones(5);
        x.tape(0, 2, 3);
        due(-12, x.judge(0, -1));
        due(-12, x.judge(0, 3));
        due(-12, x.judge(0, MAX));
    }

    static void promise25_CAST_comes_ahead_of_there_being_nobody() {
        StruckWhile x = new StruckWhile();
        x.tape(0, 2, 3);
        due(-12, x.judge(0, 0));
        due(-12, x.judge(0, -1));
    }

    static void promise25_nobody_is_minus_5_wherever_the_place_is() {
        StruckWhile x = bytes(new StruckWhile(), 1, 2);
        for (int i : new int[] {MIN, -1, 0, 1, 2, MAX}) {
            due(-5, x.judge(0, i));
        }
    }

    static void promise25_nobody_is_minus_5_also_if_the_TAPE_holds_nothing() {
        for (int i : new int[] {MIN, -1, 0, 1, MAX}) {
            due(-5, new StruckWhile().judge(0, i));
        }
    }

    static void promise25_a_TAPE_that_holds_nothing_is_100() {
        for (int i : new int[] {MIN, -1, 0, 1, MAX}) {
            due(100, Check.ones(5).judge(0, i));
        }
        StruckWhile x = bytes(Check.ones(5), 5);
        x.tape(0, -1, 0);
        due(100, x.judge(0, 0));
    }

    static void promise25_a_row_of_none_is_100() {
        StruckWhile x = bytes(Check.ones(5));
        due(100, x.judge(0, 0));
        due(100, x.judge(0, -1));
        due(100, x.judge(0, 1));
    }

    static void promise25_a_place_below_0_is_100() {
        StruckWhile x = bytes(Check.ones(5), 5, 5);
        due(-5, x.judge(0, 0));
        due(100, x.judge(0, -1));
        due(100, x.judge(0, MIN));
    }

    static void promise25_the_last_place_and_the_one_behind_it() {
        StruckWhile x = bytes(Check.ones(5), 4, 4, 5);
        due(-5, x.judge(0, 2));
        due(100, x.judge(0, 3));
        due(100, x.judge(0, 4));
        due(100, x.judge(0, MAX));
    }

    static void promise25_the_last_place_of_60() {
        StruckWhile x = Check.ones(5);
        x.tape(0, 0, 60);
        x.item(0, 59, 5);
        due(-5, x.judge(0, 59));
        due(100, x.judge(0, 60));
    }

    static void promise25_a_row_that_ends_ahead_is_100_and_how_many_were_looked_at() {
        StruckWhile x = bytes(Check.ones(1, 2, 3, 4, 5, 6), 1, 2, 3, 4, 5);
        due(105, x.judge(0, 0));
        bytes(x, 1);
        due(101, x.judge(0, 0));
        bytes(x, 9, 1, 2, 3);
        due(103, x.judge(0, 1));
    }

    static void promise25_a_row_as_long_as_needed_and_a_longer_one() {
        StruckWhile x = bytes(Check.ones(1, 2, 3), 1, 2, 3);
        due(-5, x.judge(0, 0));
        bytes(x, 1, 2, 3, 99);
        due(-5, x.judge(0, 0));
        bytes(x, 99, 1, 2, 3, 99);
        due(-5, x.judge(0, 1));
    }

    static void promise25_the_first_and_the_last_is_otherwise() {
        StruckWhile x = bytes(Check.ones(1, 2, 3), 0, 2, 3);
        due(0, x.judge(0, 0));
        bytes(x, 1, 2, 4);
        due(2, x.judge(0, 0));
    }

    static void promise25_of_several_the_first_counted_from_the_place_on() {
        StruckWhile x = bytes(Check.ones(1, 2, 3), 1, 1, 9, 9);
        due(1, x.judge(0, 1));
    }

    static void promise25_otherwise_ahead_of_where_the_row_ends() {
        StruckWhile x = bytes(Check.ones(1, 2, 3), 1, 9);
        due(1, x.judge(0, 0));
    }

    static void promise25_bytes_go_by_what_they_became() {
        StruckWhile x = bytes(Check.ones(0, 99), 256, 99 - 256);
        due(-5, x.judge(0, 0));
        bytes(x, 128, 99);
        due(0, x.judge(0, 0));
    }

    static void promise25_of_one_AWAY_too() {
        StruckWhile x = bytes(Check.ones(5, 6), 5, 7);
        x.away(1, true);
        due(1, x.judge(0, 0));
    }

    static void promise25_what_is_asked_changes_nothing() {
        for (int t = -1; t <= 6; t++) {
            int asked = t;
            asksOnly(x -> x.judge(asked, 0));
            asksOnly(x -> x.judge(asked, -1));
        }
    }

    // ---- 26: image

    static void promise26_of_nobody_is_0_and_of_six_is_6() {
        due(0, new StruckWhile().image());
        due(6, Stands.full().image());
        due(1, Check.ones(5).image());
    }

    static void promise26_it_is_taken_and_nothing_else_changes() {
        StruckWhile x = Stands.some();
        x.image();
        StruckWhile y = Stands.some();
        List<String> got = Sight.of(x);
        List<String> want = Sight.of(y);
        int undo = want.indexOf("undo() = 4");
        holds("undo() = 4 is seen", undo > 0);
        holds("all is alike ahead of undo()", got.subList(0, undo).equals(want.subList(0, undo)));
    }

    static void promise26_the_latest_is_kept() {
        StruckWhile x = Check.ones(5);
        due(1, x.image());
        x.heat(0, 6);
        due(1, x.image());
        x.heat(0, 7);
        due(1, x.undo());
        due(6, x.of(0, 2));
    }

    static void promise26_with_nobody_it_is_one_all_the_same() {
        StruckWhile x = new StruckWhile();
        due(0, x.image());
        x.one(0, 0, 5);
        due(0, x.undo());
        due(0, x.count(0));
    }

    // ---- 27: undo

    static void promise27_without_one_is_STATE() {
        due(-3, new StruckWhile().undo());
        due(-3, Check.ones(5).undo());
    }

    static void promise27_STATE_changes_nothing() {
        changesNothing(-3, StruckWhile::new, StruckWhile::undo);
        changesNothing(-3, Stands::fullText, StruckWhile::undo);
    }

    static void promise27_it_may_be_undone_again_and_again() {
        StruckWhile x = Check.ones(5);
        x.image();
        for (int i = 0; i < 3; i++) {
            x.heat(0, 90 + i);
            due(1, x.undo());
            due(5, x.of(0, 2));
        }
    }

    static void promise27_at_once_nothing_changes() {
        StruckWhile x = Stands.full();
        StruckWhile y = Stands.full();
        x.image();
        y.image();
        due(6, x.undo());
        holds("all is alike", Sight.of(x).equals(Sight.of(y)));
    }

    static void promise27_PEOPLE_that_came_later_are_gone_and_come_as_new_ones() {
        StruckWhile x = Check.ones(5);
        x.image();
        x.one(6, 9, 99);
        x.row(1, 2, 7);
        x.away(1, true);
        due(1, x.undo());
        due(-10001, x.of(1, 0));
        due(-1, x.heat(1, 5));
        due(1, x.one(6, 0, 0));
        due(0, x.of(1, 3));
        due(0, x.row(1, 2, 0));
    }

    static void promise27_PEOPLE_with_v_HEAT_AWAY_and_ROW() {
        StruckWhile x = Stands.alone(6, 4, 30);
        x.row(0, 3, 8);
        x.away(0, true);
        x.image();
        x.row(0, 3, 1);
        x.away(0, false);
        x.heat(0, 31);
        due(1, x.undo());
        due(6, x.of(0, 0));
        due(4, x.of(0, 1));
        due(30, x.of(0, 2));
        due(1, x.of(0, 3));
        due(8, x.row(0, 3, 0));
    }

    static void promise27_WORKS_that_came_later_are_gone_and_come_as_new_ones() {
        StruckWhile x = Check.ones(30);
        x.image();
        x.work(30, 7);
        x.anvil(0);
        x.pass(1);
        due(1, x.undo());
        due(-1, x.piece(0, 0));
        due(-1, x.anvil(0));
        due(0, x.work(31, 8));
        due(31, x.piece(0, 0));
        due(8, x.piece(0, 1));
        due(0, x.piece(0, 2));
    }

    static void promise27_STRUCK_and_MINUTE() {
        StruckWhile x = Check.ones(30, 20);
        x.work(50, 7);
        x.anvil(0);
        x.pass(1);
        x.image();
        x.pass(1);
        due(50, x.piece(0, 2));
        due(2, x.undo());
        due(30, x.piece(0, 2));
        due(0, x.piece(0, 3));
        due(1, x.told(0));
        heatsAre(x, 0, 20);
    }

    static void promise27_what_is_ON_THE_ANVIL_and_none() {
        StruckWhile x = new StruckWhile();
        x.work(5, 5);
        x.image();
        x.anvil(0);
        x.undo();
        due(-5, x.told(2));
        x.anvil(0);
        x.image();
        x.anvil(-1);
        x.undo();
        due(0, x.told(2));
    }

    static void promise27_MINUTE_may_go_back_from_9999() {
        StruckWhile x = new StruckWhile();
        x.image();
        Stands.later(x, 9999);
        due(-3, x.pass(1));
        due(0, x.undo());
        due(0, x.told(0));
        due(1, x.pass(1));
    }

    static void promise27_SEEN_the_PLAN_and_the_BOOK() {
        StruckWhile x = Check.ones(30);
        Check.square(x, "heat 1 p=0");
        x.see(0, 0, true);
        x.plan(0, 0);
        x.book(0, 31);
        x.image();
        x.see(-1, 0, true);
        x.plan(-1, 0);
        x.book(-1, 0);
        x.undo();
        due(1, x.count(3));
        due(50, x.can(0, 0, 1));
        due(1, x.count(4));
        due(31, x.ends(0));
        due(1, x.count(5));
        due(0, x.looked());
    }

    static void promise27_SEEN_though_other_rows_stand_in_its_place() {
        StruckWhile x = Check.ones(30, 60);
        Check.square(x, "heat 1 p=0");
        x.see(0, 0, false);
        x.see(0, 2, true);
        x.see(1, 12, true);
        x.image();
        due(0, x.see(-1, 0, true));
        x.see(1, 1, false);
        x.see(1, 1, true);
        x.see(1, 1, false);
        due(0, x.can(0, 0, 0));
        x.undo();
        due(2, x.can(0, 0, 0));
        due(48, x.can(0, 0, 1));
        // By two sparks of 1, 0 is hot behind 2 MINUTES.
        due(80, x.can(1, 0, 1));
    }

    static void promise27_the_PLAN_though_other_rows_stand_in_its_place() {
        StruckWhile x = Check.ones(30, 40);
        Check.square(x, "heat 1 p=0;heat 5 p=1;spark 99");
        x.plan(0, 0);
        x.plan(1, 0);
        x.plan(0, 0);
        x.image();
        due(0, x.plan(-1, 0));
        x.plan(1, 1);
        x.plan(0, 0);
        x.plan(2, 1);
        due(71, x.ends(0));
        x.undo();
        due(81, x.ends(0));
    }

    static void promise27_the_BOOK_though_other_rows_stand_in_its_place() {
        StruckWhile x = Check.ones(30, 40);
        x.book(0, 30);
        x.book(1, 40);
        x.book(1, 41);
        x.image();
        due(0, x.book(-1, 0));
        x.book(1, 39);
        x.book(0, 31);
        x.book(0, 30);
        due(0, x.looked());
        x.undo();
        due(2, x.looked());
    }

    static void promise27_SEEN_the_PLAN_and_the_BOOK_empty_again() {
        StruckWhile x = Check.ones(30);
        x.image();
        x.see(0, 0, true);
        x.plan(0, 0);
        x.book(0, 31);
        x.undo();
        due(0, x.count(3));
        due(0, x.count(4));
        due(0, x.count(5));
    }

    static void promise27_which_SQUARE_holds_and_none() {
        StruckWhile x = Check.ones(0);
        x.image();
        Check.square(x, "heat 5 p=0;spark 40");
        x.undo();
        due(0, x.of(0, 4));
        due(80, x.told(1));
        Check.square(x, "heat 6 p=0;spark 50");
        x.image();
        Check.square(x, "heat 7 p=0;spark 60");
        x.undo();
        due(6, x.of(0, 4));
        due(50, x.told(1));
    }

    static void promise27_the_number_of_SQUARES_stays_and_six_are_FULL_all_the_same() {
        StruckWhile x = new StruckWhile();
        x.image();
        for (int i = 0; i < 6; i++) {
            due(i, Check.square(x, "spark 5"));
            x.undo();
            due(i + 1, x.count(2));
        }
        due(-4, Check.square(x, "spark 5"));
    }

    static void promise27_THE_TEXT_the_TAPES_and_THE_TRACE_stay() {
        StruckWhile x = Check.ones(5);
        x.image();
        x.feed('h');
        x.tape(0, 2, 1);
        x.item(0, 0, 77);
        x.act(0, 1, 5);
        x.undo();
        due(1, x.count(6));
        due(77, x.read(0, 0));
        due(2, x.count(7));
        due(11, x.trace(0));
    }

    static void promise27_THE_IMAGE_stays_as_it_was_taken() {
        StruckWhile x = Check.ones(5, 6);
        x.image();
        x.undo();
        x.heat(0, 50);
        x.away(1, true);
        x.pass(3);
        due(2, x.undo());
        heatsAre(x, 5, 6);
        due(0, x.of(1, 3));
        due(0, x.told(0));
    }
}
