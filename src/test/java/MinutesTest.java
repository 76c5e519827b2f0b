/** Promises 13 and 14: pass, on. */
public final class MinutesTest {
    private static final Check C = new Check("minutes");

    public static void main(String[] args) {
        passRefused();
        lastMinute();
        gives();
        givesNothing();
        sparks();
        sparksFromTheGiver();
        bounds();
        byHowAllIsAhead();
        on();
        onRefused();
        onBeyondTheLast();
        C.end();
    }

    private static void passRefused() {
        StruckWhile x = Check.ones(3);
        C.due(13, "pass(-1)", x.pass(-1), -2);
        C.due(13, "pass(61)", x.pass(61), -2);
        C.due(13, "pass(0)", x.pass(0), 0);
        C.due(13, "pass(60)", x.pass(60), 60);
        C.due(13, "pass(2)", x.pass(2), 62);
    }

    private static void lastMinute() {
        StruckWhile x = new StruckWhile();
        for (int i = 1; i <= 166; i++) {
            x.pass(60);
        }
        C.due(13, "told(0)", x.told(0), 9960);
        C.due(13, "pass(40)", x.pass(40), -3);
        C.due(13, "pass(61)", x.pass(61), -2);
        C.due(13, "told(0)", x.told(0), 9960);
        C.due(13, "pass(39)", x.pass(39), 9999);
        C.due(13, "pass(1)", x.pass(1), -3);
        C.due(13, "pass(0)", x.pass(0), 9999);
    }

    private static void heatsAre(StruckWhile x, String due) {
        C.holds("heats are " + due + ", not " + Check.heats(x), Check.heats(x).equals(due));
    }

    private static void gives() {
        StruckWhile x = Check.ones(10, 40, 40, 60);
        x.away(3, true);
        x.work(45, 5);
        x.anvil(0);
        Check.square(x, "heat 3 p<9");
        C.due(13, "pass(1)", x.pass(1), 1);
        heatsAre(x, "13 0 43 60");
        C.due(13, "piece(0, 2)", x.piece(0, 2), 40);
        x.pass(1);
        heatsAre(x, "16 3 0 60");
        C.due(13, "piece(0, 2)", x.piece(0, 2), 83);
        x.pass(1);
        heatsAre(x, "19 6 3 60");
        C.due(13, "piece(0, 2), DONE", x.piece(0, 2), 83);
        C.due(13, "told(2), DONE", x.told(2), 0);
    }

    private static void givesNothing() {
        StruckWhile x = Check.ones(0, 0);
        x.work(5, 5);
        x.anvil(0);
        Check.square(x, "heat 2 p<9");
        x.pass(1);
        heatsAre(x, "0 2");
        x.away(0, true);
        x.away(1, true);
        x.pass(3);
        heatsAre(x, "0 2");
        C.due(13, "all AWAY: piece(0, 2)", x.piece(0, 2), 0);
        x.away(0, false);
        x.away(1, false);
        x.anvil(-1);
        x.pass(1);
        heatsAre(x, "2 4");
        C.due(13, "none ON THE ANVIL: piece(0, 2)", x.piece(0, 2), 0);
    }

    /** SPARK is 80 without a SQUARE. */
    private static void sparks() {
        StruckWhile x = Check.ones(80, 5, 80, 79, 5);
        x.pass(1);
        heatsAre(x, "80 25 80 89 5");
        x.away(2, true);
        x.pass(1);
        heatsAre(x, "80 35 80 89 15");
        Check.square(x, "spark 15");
        x.pass(1);
        heatsAre(x, "90 45 80 99 25");
    }

    private static void sparksFromTheGiver() {
        StruckWhile x = Check.ones(5, 85, 6);
        x.work(500, 5);
        x.anvil(0);
        x.pass(1);
        heatsAre(x, "15 0 16");
        StruckWhile y = Check.ones(90, 85, 6);
        y.work(500, 5);
        y.anvil(0);
        y.pass(1);
        heatsAre(y, "0 95 16");
    }

    private static void bounds() {
        StruckWhile x = Check.ones(95, 20, 4);
        Check.square(x, "heat 9 p=0;calm 25 p=1;calm 5 p=2;spark 90");
        x.pass(1);
        heatsAre(x, "99 5 0");
        x.pass(1);
        heatsAre(x, "99 0 0");
        StruckWhile y = Check.ones(90, 0);
        Check.square(y, "calm 12 p=1");
        y.pass(1);
        heatsAre(y, "90 0");
    }

    /** One's RISE and sparks go by the others' HEAT ahead of the MINUTE, not by what it becomes. */
    private static void byHowAllIsAhead() {
        StruckWhile x = Check.ones(49, 49, 51);
        Check.square(x, "heat 2 h=4;calm 3 h=5;heat 10 n=1;spark 60");
        x.pass(1);
        heatsAre(x, "51 61 48");
        x.pass(1);
        heatsAre(x, "68 71 70");
        StruckWhile y = new StruckWhile();
        y.one(5, 0, 10);
        y.one(4, 3, 50);
        y.one(2, 0, 0);
        y.pass(1);
        heatsAre(y, "17 50 5");
        y.pass(1);
        heatsAre(y, "19 50 5");
        y.pass(2);
        heatsAre(y, "28 50 10");
    }

    private static void on() {
        StruckWhile x = Check.ones(10, 40);
        x.work(45, 5);
        x.work(5, 5);
        x.anvil(0);
        Check.square(x, "heat 3 p<9");
        int[][] due = {{0, 0, 0}, {0, 10, 10}, {0, 11, 40}, {0, 20, 0}, {1, 0, 0}, {1, 10, 13}, {1, 11, 0}, {1, 20, 40},
            {2, 0, 1}, {2, 10, 0}, {2, 11, 3}, {2, 20, 53}, {2, 21, 0}, {3, 10, 3}, {3, 11, 6}, {3, 20, 53},
            {60, 10, 99}, {60, 0, 1}};
        for (int[] call : due) {
            C.due(14, "on(" + call[0] + ", " + call[1] + ")", x.on(call[0], call[1]), call[2]);
        }
        heatsAre(x, "10 40");
        C.due(14, "told(0)", x.told(0), 0);
        C.due(14, "piece(0, 2)", x.piece(0, 2), 0);
    }

    private static void onRefused() {
        StruckWhile x = Check.ones(10, 40);
        x.work(45, 5);
        int[] wrong = {-1, 1, 9, 12, 15, 16, 19, 21, 24, 30, Integer.MIN_VALUE, Integer.MIN_VALUE + 10, Integer.MAX_VALUE};
        for (int what : wrong) {
            C.due(14, "on(5, " + what + ")", x.on(5, what), -1);
            C.due(14, "on(61, " + what + ")", x.on(61, what), -1);
        }
        C.due(14, "on(-1, 0)", x.on(-1, 0), -2);
        C.due(14, "on(61, 0)", x.on(61, 0), -2);
        C.due(14, "on(61, 11)", x.on(61, 11), -2);
        C.due(14, "on(-1, 20)", x.on(-1, 20), -2);
    }

    private static void onBeyondTheLast() {
        StruckWhile x = Check.ones(0);
        for (int i = 1; i <= 166; i++) {
            x.pass(60);
        }
        x.pass(39);
        Check.square(x, "heat 1 m=9;heat 2 m=0");
        C.due(14, "on(1, 10) at MINUTE 9999", x.on(1, 10), 1);
        C.due(14, "on(2, 10) at MINUTE 9999", x.on(2, 10), 3);
        C.due(14, "on(60, 10) at MINUTE 9999", x.on(60, 10), 18);
    }
}
