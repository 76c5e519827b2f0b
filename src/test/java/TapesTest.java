/** Promises 32 to 35: tape, item, read, shift. */
public final class TapesTest {
    private static final long NO = StruckWhile.NO;
    private static final Check C = new Check("tapes");

    public static void main(String[] args) {
        tape();
        tapeAllZero();
        item();
        itemsByTheirBits();
        read();
        shiftRefused();
        shiftPlaces();
        shift();
        C.end();
    }

    private static void tape() {
        StruckWhile x = new StruckWhile();
        C.due(32, "tape(-1, 5, 61)", x.tape(-1, 5, 61), -1);
        C.due(32, "tape(6, 0, 0)", x.tape(6, 0, 0), -1);
        C.due(32, "tape(6, -1, 0)", x.tape(6, -1, 0), -1);
        C.due(32, "tape(0, 5, -1)", x.tape(0, 5, -1), -2);
        C.due(32, "tape(0, -2, 0)", x.tape(0, -2, 0), -2);
        C.due(32, "tape(0, 0, 61)", x.tape(0, 0, 61), -2);
        C.due(32, "tape(0, 0, -1)", x.tape(0, 0, -1), -14);
        C.due(32, "tape(0, 4, MIN)", x.tape(0, 4, Integer.MIN_VALUE), -14);
        C.due(32, "item(0, 0, 1)", x.item(0, 0, 1), -11);
        for (int sort = 0; sort <= 4; sort++) {
            C.due(32, "tape(" + sort + ", " + sort + ", 60)", x.tape(sort, sort, 60), 1);
            C.due(32, "read(" + sort + ", 59)", x.read(sort, 59), 0);
            C.due(32, "read(" + sort + ", 60)", x.read(sort, 60), NO);
        }
        C.due(32, "tape(0, 0, 61)", x.tape(0, 0, 61), -2);
        C.due(32, "read(0, 59)", x.read(0, 59), 0);
        C.due(32, "tape(0, -1, -7)", x.tape(0, -1, -7), 1);
        C.due(32, "tape(1, -1, 99)", x.tape(1, -1, 99), 1);
        C.due(32, "item(0, 0, 1)", x.item(0, 0, 1), -11);
        C.due(32, "item(1, 0, 1)", x.item(1, 0, 1), -11);
        C.due(32, "tape(5, 2, 0)", x.tape(5, 2, 0), 1);
        C.due(32, "item(5, 0, 1)", x.item(5, 0, 1), -13);
    }

    private static void tapeAllZero() {
        StruckWhile x = new StruckWhile();
        x.tape(2, 3, 5);
        for (int i = 0; i < 5; i++) {
            x.item(2, i, 9);
        }
        x.tape(2, 2, 3);
        x.tape(2, 3, 5);
        for (int i = 0; i < 5; i++) {
            C.due(32, "read(2, " + i + ")", x.read(2, i), 0);
        }
    }

    private static void item() {
        StruckWhile x = new StruckWhile();
        x.tape(3, 2, 4);
        C.due(33, "item(-1, 0, 1)", x.item(-1, 0, 1), -1);
        C.due(33, "item(6, 0, 1)", x.item(6, 0, 1), -1);
        C.due(33, "item(2, -1, 1)", x.item(2, -1, 1), -11);
        C.due(33, "item(3, -1, 1)", x.item(3, -1, 1), -13);
        C.due(33, "item(3, 4, 1)", x.item(3, 4, 1), -13);
        C.due(33, "item(3, MAX, 1)", x.item(3, Integer.MAX_VALUE, 1), -13);
        C.due(33, "item(3, MIN, 1)", x.item(3, Integer.MIN_VALUE, 1), -13);
        C.due(33, "item(3, 3, 7)", x.item(3, 3, 7), 1);
        C.due(33, "read(3, 3)", x.read(3, 3), 7);
        C.due(33, "read(3, 2)", x.read(3, 2), 0);
    }

    private static void itemsByTheirBits() {
        StruckWhile x = new StruckWhile();
        long[] values = {0, 1, -1, 127, 128, 255, 256, 32767, 32768, 65536, 1L << 31, (1L << 32) + 5, -(1L << 40), Long.MAX_VALUE};
        for (int sort = 0; sort <= 4; sort++) {
            x.tape(sort, sort, 1);
        }
        for (long v : values) {
            long[] due = {(byte) v, (short) v, (int) v, v, v != 0 ? 1 : 0};
            for (int sort = 0; sort <= 4; sort++) {
                C.due(33, "item(" + sort + ", 0, " + v + ")", x.item(sort, 0, v), 1);
                C.due(33, "read of sort " + sort + ", " + v, x.read(sort, 0), due[sort]);
            }
        }
        C.due(33, "item(0, 0, 200)", x.item(0, 0, 200), 1);
        C.due(33, "read(0, 0)", x.read(0, 0), -56);
    }

    private static void read() {
        StruckWhile x = new StruckWhile();
        x.tape(3, 2, 4);
        C.due(34, "read(-1, 0)", x.read(-1, 0), NO);
        C.due(34, "read(6, 0)", x.read(6, 0), NO);
        C.due(34, "read(2, 0)", x.read(2, 0), NO);
        C.due(34, "read(3, -1)", x.read(3, -1), NO);
        C.due(34, "read(3, 4)", x.read(3, 4), NO);
        C.due(34, "read(3, MAX)", x.read(3, Integer.MAX_VALUE), NO);
        C.due(34, "read(3, MIN)", x.read(3, Integer.MIN_VALUE), NO);
        C.due(34, "read(3, 3)", x.read(3, 3), 0);
        x.item(3, 0, -6);
        C.due(34, "read(3, 0)", x.read(3, 0), -6);
    }

    private static void row(StruckWhile x, int tape, int sort, int... items) {
        x.tape(tape, sort, items.length);
        for (int i = 0; i < items.length; i++) {
            x.item(tape, i, items[i]);
        }
    }

    private static void shiftRefused() {
        StruckWhile x = new StruckWhile();
        row(x, 0, 2, 1, 2, 3);
        row(x, 1, 3, 4, 5, 6);
        C.due(35, "shift(-1, 0, 5, 0, 0)", x.shift(-1, 0, 5, 0, 0), -1);
        C.due(35, "shift(6, 0, 0, 0, 0)", x.shift(6, 0, 0, 0, 0), -1);
        C.due(35, "shift(5, 0, -1, 0, 0)", x.shift(5, 0, -1, 0, 0), -1);
        C.due(35, "shift(0, 0, 6, 0, 0)", x.shift(0, 0, 6, 0, 0), -1);
        C.due(35, "shift(5, -1, 0, 0, 0)", x.shift(5, -1, 0, 0, 0), -11);
        C.due(35, "shift(0, 0, 5, 0, -1)", x.shift(0, 0, 5, 0, -1), -11);
        C.due(35, "shift(5, 0, 5, 0, 0)", x.shift(5, 0, 5, 0, 0), -11);
        C.due(35, "shift(0, 0, 1, 0, 1)", x.shift(0, 0, 1, 0, 1), -12);
        C.due(35, "shift(0, -1, 1, 0, 9)", x.shift(0, -1, 1, 0, 9), -12);
        C.due(35, "read(1, 0)", x.read(1, 0), 4);
    }

    private static void shiftPlaces() {
        StruckWhile x = new StruckWhile();
        row(x, 0, 2, 1, 2, 3);
        row(x, 1, 2, 4, 5, 6, 7);
        int max = Integer.MAX_VALUE;
        int[][] wrong = {{0, 0, -1}, {-1, 0, 1}, {0, -1, 1}, {0, 0, 4}, {1, 0, 3}, {0, 2, 3}, {4, 0, 0}, {0, 5, 0}, {-1, 0, 0},
            {0, -1, 0}, {max, 0, 1}, {0, max, 1}, {1, 1, max}, {max, max, max}, {Integer.MIN_VALUE, 0, 1},
            {0, 0, Integer.MIN_VALUE}};
        for (int[] call : wrong) {
            String what = "shift(0, " + call[0] + ", 1, " + call[1] + ", " + call[2] + ")";
            C.due(35, what, x.shift(0, call[0], 1, call[1], call[2]), -13);
        }
        C.due(35, "shift(0, 3, 1, 4, 0)", x.shift(0, 3, 1, 4, 0), 0);
        C.due(35, "shift(0, 0, 1, 0, 0)", x.shift(0, 0, 1, 0, 0), 0);
        C.due(35, "read(1, 0)", x.read(1, 0), 4);
        C.due(35, "read(1, 3)", x.read(1, 3), 7);
    }

    private static void itemsAre(StruckWhile x, int tape, int... due) {
        for (int i = 0; i < due.length; i++) {
            C.due(35, "read(" + tape + ", " + i + ")", x.read(tape, i), due[i]);
        }
    }

    private static void shift() {
        StruckWhile x = new StruckWhile();
        row(x, 0, 0, 1, 2, 3);
        row(x, 1, 0, 4, 5, 6, 7);
        C.due(35, "shift(0, 0, 1, 1, 3)", x.shift(0, 0, 1, 1, 3), 3);
        itemsAre(x, 0, 1, 2, 3);
        itemsAre(x, 1, 4, 1, 2, 3);
        C.due(35, "shift(1, 0, 1, 1, 3)", x.shift(1, 0, 1, 1, 3), 3);
        itemsAre(x, 1, 4, 4, 1, 2);
        C.due(35, "shift(1, 1, 1, 0, 3)", x.shift(1, 1, 1, 0, 3), 3);
        itemsAre(x, 1, 4, 1, 2, 2);
        C.due(35, "shift(1, 2, 0, 0, 1)", x.shift(1, 2, 0, 0, 1), 1);
        itemsAre(x, 0, 2, 2, 3);
        row(x, 2, 4, 0, 1);
        row(x, 3, 4, 0, 0);
        C.due(35, "shift(2, 1, 3, 0, 1)", x.shift(2, 1, 3, 0, 1), 1);
        itemsAre(x, 3, 1, 0);
    }
}
