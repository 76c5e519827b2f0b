/** Promises 25 to 27: judge, image, undo. */
public final class JudgeImageTest {
    private static final Check C = new Check("judging and the image");

    public static void main(String[] args) {
        judgeRefused();
        judgeOfNobody();
        judge();
        judgeSignedBytes();
        image();
        undoOfPeople();
        undoOfWorks();
        undoOfRowsByHand();
        undoOfRowsOfOneKind();
        undoOfSquare();
        undoKeepsTheRest();
        C.end();
    }

    private static void bytes(StruckWhile x, int tape, int... items) {
        x.tape(tape, 0, items.length);
        for (int i = 0; i < items.length; i++) {
            x.item(tape, i, items[i]);
        }
    }

    private static void judgeRefused() {
        StruckWhile x = Check.ones(5);
        C.due(25, "judge(-1, 0)", x.judge(-1, 0), -1);
        C.due(25, "judge(6, 0)", x.judge(6, 0), -1);
        for (int sort = 1; sort <= 4; sort++) {
            x.tape(0, sort, 3);
            C.due(25, "judge(0, 0) of sort " + sort, x.judge(0, 0), -12);
            C.due(25, "judge(0, -1) of sort " + sort, x.judge(0, -1), -12);
            x.tape(1, sort, 0);
            C.due(25, "judge(1, 0) of sort " + sort, x.judge(1, 0), -12);
        }
        C.due(25, "judge(5, 0), holds nothing", x.judge(5, 0), 100);
        C.due(25, "judge(5, -7), holds nothing", x.judge(5, -7), 100);
        x.tape(0, -1, 0);
        C.due(25, "judge(0, 0), holds nothing again", x.judge(0, 0), 100);
    }

    private static void judgeOfNobody() {
        StruckWhile x = new StruckWhile();
        bytes(x, 0, 1, 2);
        C.due(25, "judge(0, 0)", x.judge(0, 0), -5);
        C.due(25, "judge(0, -1)", x.judge(0, -1), -5);
        C.due(25, "judge(0, 99)", x.judge(0, 99), -5);
        C.due(25, "judge(1, 99)", x.judge(1, 99), -5);
        C.due(25, "judge(6, 0)", x.judge(6, 0), -1);
        x.tape(2, 2, 4);
        C.due(25, "judge(2, 0), ints", x.judge(2, 0), -12);
    }

    private static void judge() {
        StruckWhile x = Check.ones(5, 0, 7);
        bytes(x, 0, 5, 0, 7);
        C.due(25, "judge(0, 0)", x.judge(0, 0), -5);
        C.due(25, "judge(0, 1)", x.judge(0, 1), 0);
        C.due(25, "judge(0, 3)", x.judge(0, 3), 100);
        C.due(25, "judge(0, 4)", x.judge(0, 4), 100);
        C.due(25, "judge(0, -1)", x.judge(0, -1), 100);
        C.due(25, "judge(0, MIN)", x.judge(0, Integer.MIN_VALUE), 100);
        C.due(25, "judge(0, MAX)", x.judge(0, Integer.MAX_VALUE), 100);
        bytes(x, 1, 9, 5, 0);
        C.due(25, "judge(1, 1)", x.judge(1, 1), 102);
        bytes(x, 2, 9, 9, 5, 0, 7, 9);
        C.due(25, "judge(2, 2)", x.judge(2, 2), -5);
        x.heat(2, 8);
        C.due(25, "judge(2, 2)", x.judge(2, 2), 2);
        bytes(x, 3, 5);
        C.due(25, "judge(3, 0)", x.judge(3, 0), 101);
        bytes(x, 4, 5, 1);
        C.due(25, "judge(4, 0)", x.judge(4, 0), 1);
        x.tape(5, 0, 0);
        C.due(25, "judge(5, 0)", x.judge(5, 0), 100);
    }

    private static void judgeSignedBytes() {
        StruckWhile x = Check.ones(72);
        bytes(x, 0, 72 + 256, 72 + 128);
        C.due(25, "judge(0, 0)", x.judge(0, 0), -5);
        C.due(25, "judge(0, 1)", x.judge(0, 1), 0);
    }

    private static void image() {
        StruckWhile x = new StruckWhile();
        C.due(27, "undo()", x.undo(), -3);
        C.due(26, "image()", x.image(), 0);
        x.one(0, 0, 5);
        C.due(27, "undo()", x.undo(), 0);
        C.due(27, "count(0)", x.count(0), 0);
        x.one(0, 0, 5);
        x.one(0, 0, 6);
        C.due(26, "image()", x.image(), 2);
        x.heat(0, 9);
        C.due(27, "undo()", x.undo(), 2);
        C.due(27, "of(0, 2)", x.of(0, 2), 5);
        x.heat(0, 9);
        C.due(27, "undo() again", x.undo(), 2);
        C.due(27, "of(0, 2)", x.of(0, 2), 5);
    }

    private static void undoOfPeople() {
        StruckWhile x = new StruckWhile();
        x.one(6, 4, 30);
        x.row(0, 0, 7);
        x.image();
        x.row(0, 0, 3);
        x.away(0, true);
        x.one(6, 9, 60);
        x.row(1, 1, 8);
        x.away(1, true);
        C.due(27, "undo()", x.undo(), 1);
        int[] due = {6, 4, 30, 0, 7, 0};
        for (int what = 0; what < 6; what++) {
            C.due(27, "of(0, " + what + ")", x.of(0, what), due[what]);
        }
        C.due(27, "of(1, 0)", x.of(1, 0), -10001);
        C.due(27, "one(6, 0, 0)", x.one(6, 0, 0), 1);
        C.due(27, "a new one is not AWAY", x.of(1, 3), 0);
        C.due(27, "a new one's ROW is 0", x.row(1, 1, 2), 0);
        x.away(0, true);
        x.image();
        x.away(0, false);
        x.undo();
        C.due(27, "of(0, 3)", x.of(0, 3), 1);
    }

    private static void undoOfWorks() {
        StruckWhile x = Check.ones(30, 20);
        x.work(40, 5);
        x.anvil(0);
        x.pass(1);
        x.image();
        x.pass(1);
        x.work(60, 7);
        x.anvil(1);
        x.pass(3);
        C.due(27, "undo()", x.undo(), 2);
        C.due(27, "told(0)", x.told(0), 1);
        C.due(27, "told(2)", x.told(2), 0);
        C.due(27, "told(5)", x.told(5), 20);
        C.due(27, "piece(0, 2)", x.piece(0, 2), 30);
        C.due(27, "count(1)", x.count(1), 1);
        C.due(27, "work(10, 3)", x.work(10, 3), 1);
        C.due(27, "piece(1, 0)", x.piece(1, 0), 10);
        C.due(27, "piece(1, 1)", x.piece(1, 1), 3);
        C.due(27, "piece(1, 2)", x.piece(1, 2), 0);
    }

    private static void undoOfRowsByHand() {
        StruckWhile x = Check.ones(30, 60);
        x.see(0, 0, true);
        x.plan(1, 0);
        x.plan(0, 0);
        x.book(1, 61);
        x.image();
        x.see(-1, 0, false);
        x.see(1, 0, true);
        x.see(1, 1, true);
        x.plan(-1, 0);
        x.plan(0, 0);
        x.book(-1, 0);
        x.book(0, 30);
        x.book(0, 30);
        x.undo();
        C.due(27, "count(3)", x.count(3), 1);
        C.due(27, "count(4)", x.count(4), 2);
        C.due(27, "count(5)", x.count(5), 1);
        C.due(27, "can(0, 0, 1)", x.can(0, 0, 1), 50);
        C.due(27, "looked()", x.looked(), 0);
        x.work(90, 5);
        x.anvil(0);
        C.due(27, "ends(0)", x.ends(0), 30);
    }

    private static void undoOfRowsOfOneKind() {
        StruckWhile x = Check.ones(30, 60);
        Check.square(x, "heat 5 p=0");
        x.see(0, 2, true);
        x.see(0, 1, false);
        x.plan(1, 0);
        x.book(0, 30);
        x.book(0, 60);
        x.image();
        x.see(-1, 0, false);
        x.see(0, 4, false);
        x.see(0, 4, false);
        x.plan(-1, 0);
        x.plan(1, 1);
        x.book(-1, 0);
        x.book(0, 31);
        x.book(0, 30);
        x.undo();
        C.due(27, "can(0, 0, 0)", x.can(0, 0, 0), 5);
        C.due(27, "can(0, 0, 1)", x.can(0, 0, 1), 40);
        C.due(27, "looked()", x.looked(), 1);
        x.plan(0, 0);
        C.due(27, "ends(0)", x.ends(0), 90);
    }

    private static void undoOfSquare() {
        StruckWhile x = Check.ones(30);
        x.image();
        Check.square(x, "heat 5 p=0;spark 3");
        x.undo();
        C.due(27, "told(1), none held", x.told(1), 80);
        C.due(27, "of(0, 4), none held", x.of(0, 4), 0);
        C.due(27, "count(2)", x.count(2), 1);
        C.due(27, "square()", Check.square(x, "heat 6 p=0"), 1);
        x.image();
        C.due(27, "square()", Check.square(x, "heat 7 p=0"), 2);
        x.undo();
        C.due(27, "of(0, 4), the second held", x.of(0, 4), 6);
        C.due(27, "count(2)", x.count(2), 3);
        C.due(27, "a FAULT", Check.square(x, "heat 8 p"), -18);
        C.due(27, "of(0, 4), the second holds", x.of(0, 4), 6);
        C.due(27, "square()", Check.square(x, "heat 9 p=0"), 3);
        C.due(27, "of(0, 4), the newest holds", x.of(0, 4), 9);
    }

    private static void undoKeepsTheRest() {
        StruckWhile x = Check.ones(30);
        x.feed('h');
        x.tape(0, 0, 2);
        x.image();
        x.feed('e');
        x.item(0, 1, 9);
        x.tape(1, 3, 1);
        x.act(0, 1, 5);
        x.undo();
        C.due(27, "count(6)", x.count(6), 2);
        C.due(27, "read(0, 1)", x.read(0, 1), 9);
        C.due(27, "read(1, 0)", x.read(1, 0), 0);
        C.due(27, "count(7)", x.count(7), 2);
        C.due(27, "trace(0)", x.trace(0), 11);
    }
}
