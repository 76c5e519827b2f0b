import java.util.List;
import java.util.function.Supplier;

/** Objects in the states that cases begin with. Each is made by less than 220 calls, so that a Sight fits behind it. */
final class Stands {
    /** The usual states: nothing there yet, something of all, all that can be full is full. */
    static final List<Supplier<StruckWhile>> ALL = List.of(StruckWhile::new, Stands::some, Stands::full);

    private Stands() {
    }

    /** One alone. */
    static StruckWhile alone(int kind, int v, int heat) {
        StruckWhile x = new StruckWhile();
        x.one(kind, v, heat);
        return x;
    }

    /** Feeds a text. */
    static StruckWhile fed(StruckWhile x, String text) {
        for (int i = 0; i < text.length(); i++) {
            x.feed(text.charAt(i));
        }
        return x;
    }

    /** All AWAY, or none: an AWAY one stays as it is while MINUTES go. */
    static void allAway(StruckWhile x, boolean is) {
        for (int p = 0; p < x.count(0); p++) {
            x.away(p, is);
        }
    }

    /** MINUTES go while all are AWAY and nothing is ON THE ANVIL, so that only MINUTE is otherwise. */
    static StruckWhile later(StruckWhile x, int minutes) {
        int before = x.anvil(-1);
        allAway(x, true);
        for (int left = minutes; left > 0; left -= 60) {
            x.pass(Math.min(60, left));
        }
        allAway(x, false);
        x.anvil(before < 0 ? -1 : before);
        return x;
    }

    /** At MINUTE 9999, with nobody and nothing; by 167 calls and few more. */
    static StruckWhile last() {
        return later(new StruckWhile(), 9999);
    }

    /** Four PEOPLE, three WORKS (0 is DONE), one SQUARE, rows by hand, an IMAGE of before, TAPES of each sort, a TRACE. */
    static StruckWhile some() {
        StruckWhile x = new StruckWhile();
        x.one(0, 3, 55);
        x.one(1, 5, 49);
        x.one(6, 2, 70);
        x.one(5, 9, 90);
        x.away(1, true);
        x.row(2, 0, 4);
        x.row(2, 1, 7);
        x.row(2, 3, 9);
        x.work(60, 5);
        x.work(120, 9);
        x.work(999, 60);
        Check.square(x, "heat 4 p<9;spark 60");
        x.anvil(0);
        x.see(0, 2, false);
        x.plan(1, 0);
        x.plan(0, 0);
        x.book(3, 90);
        x.image();
        x.pass(1);
        x.anvil(1);
        x.heat(0, 61);
        x.row(2, 2, 5);
        x.see(2, 4, true);
        x.plan(3, 2);
        x.book(0, 62);
        fed(x, "calm 2 v>4;spark 70");
        tapes(x);
        x.act(2, 2, 5);
        return x;
    }

    private static void tapes(StruckWhile x) {
        for (int t = 0; t < 5; t++) {
            x.tape(t, t, 3 + t);
            x.item(t, 0, t - 2);
            x.item(t, 2, 70 + t);
        }
    }

    /** Six PEOPLE, four WORKS, six SQUARES, SEEN, the PLAN and the BOOK full. */
    static StruckWhile full() {
        StruckWhile x = new StruckWhile();
        for (int kind = 1; kind <= 6; kind++) {
            x.one(kind, kind, 12 * kind);
        }
        for (int part = 0; part < 4; part++) {
            x.row(5, part, part + 3);
        }
        for (int w = 1; w <= 4; w++) {
            x.work(70 * w, 10 * w);
        }
        for (int i = 0; i < 6; i++) {
            Check.square(x, "spark " + (60 + i));
        }
        x.anvil(2);
        x.image();
        x.pass(2);
        for (int i = 0; i < 5; i++) {
            x.see(i, i, i < 3);
        }
        for (int i = 0; i < 10; i++) {
            x.plan(i & 3, i & 3);
        }
        for (int p = 0; p < 6; p++) {
            x.book(p, x.of(p, 2));
        }
        x.book(5, 98);
        x.book(5, 99);
        fed(x, "spark 7");
        tapes(x);
        x.tape(5, 0, 60);
        x.item(5, 59, 8);
        x.act(5, 2, -9);
        return x;
    }

    /** THE TEXT is full with what is a SQUARE of 100 bytes. */
    static StruckWhile fullText() {
        return fed(Check.ones(60, 0), hundred());
    }

    /** A SQUARE of 100 bytes: heat 10, wherever p is 0. */
    static String hundred() {
        return "heat 10 p=00" + "&p=0".repeat(22);
    }
}
