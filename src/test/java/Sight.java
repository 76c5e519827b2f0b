import java.util.ArrayList;
import java.util.List;

/**
 * All that can be seen of an object: first by calls that only ask, then by calls that use it up (the ROWS, THE TEXT, THE
 * IMAGE). It takes some 290 calls.
 */
final class Sight {
    private final StruckWhile x;
    private final List<String> all = new ArrayList<>();
    /** Stands ahead of each line: behind which using call it was seen. */
    private String behind = "";

    private Sight(StruckWhile x) {
        this.x = x;
    }

    static List<String> of(StruckWhile x) {
        Sight sight = new Sight(x);
        sight.counts();
        sight.people();
        sight.works();
        sight.rowsByHand();
        sight.tapes();
        sight.trace();
        sight.rows();
        sight.text();
        sight.image();
        return sight.all;
    }

    private void sees(String call, long answer) {
        all.add(behind + call + " = " + answer);
    }

    /** 14 calls. */
    private void counts() {
        for (int what = 0; what <= 5; what++) {
            sees("told(" + what + ")", x.told(what));
        }
        for (int what = 0; what <= 7; what++) {
            sees("count(" + what + ")", x.count(what));
        }
    }

    /** 36 calls. */
    private void people() {
        for (int p = 0; p < 6; p++) {
            for (int what = 0; what <= 5; what++) {
                sees("of(" + p + ", " + what + ")", x.of(p, what));
            }
        }
    }

    /** 16 calls. */
    private void works() {
        for (int w = 0; w < 4; w++) {
            for (int what = 0; what <= 3; what++) {
                sees("piece(" + w + ", " + what + ")", x.piece(w, what));
            }
        }
    }

    /** 27 calls. */
    private void rowsByHand() {
        for (int p = 0; p < 6; p++) {
            for (int i = 0; i < 4; i++) {
                sees("can(" + p + ", " + i / 2 + ", " + i % 2 + ")", x.can(p, i / 2, i % 2));
            }
        }
        sees("ends(0)", x.ends(0));
        sees("ends(1)", x.ends(1));
        sees("looked()", x.looked());
    }

    /** 30 calls. */
    private void tapes() {
        for (int t = 0; t < 6; t++) {
            for (int i : new int[] {0, 1, 2, 3, 59}) {
                sees("read(" + t + ", " + i + ")", x.read(t, i));
            }
        }
    }

    /** 13 calls. */
    private void trace() {
        for (int i = 0; i < 13; i++) {
            sees("trace(" + i + ")", x.trace(i));
        }
    }

    /** 24 calls. */
    private void rows() {
        for (int p = 0; p < 6; p++) {
            for (int part = 0; part < 4; part++) {
                sees("row(" + p + ", " + part + ", 0)", x.row(p, part, 0));
            }
        }
    }

    /** 8 calls. */
    private void text() {
        sees("square()", x.square());
        behind = "behind square(): ";
        sees("told(1)", x.told(1));
        for (int p = 0; p < 6; p++) {
            sees("of(" + p + ", 4)", x.of(p, 4));
        }
        behind = "";
    }

    /** 118 calls. */
    private void image() {
        sees("undo()", x.undo());
        behind = "behind undo(): ";
        counts();
        people();
        works();
        rowsByHand();
        rows();
    }
}
