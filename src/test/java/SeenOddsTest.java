/** Promises 17 to 20: see, can, odds, mean. */
public final class SeenOddsTest {
    private static final long NO = StruckWhile.NO;
    private static final Check C = new Check("seen and odds");

    public static void main(String[] args) {
        see();
        canRefused();
        heats();
        can();
        canOfAnother();
        canByAllRows();
        oddsRefused();
        odds();
        oddsOfMore();
        meanRefused();
        mean();
        C.end();
    }

    private static void see() {
        StruckWhile x = Check.ones(5, 6);
        C.due(17, "see(2, 13, true)", x.see(2, 13, true), -1);
        C.due(17, "see(-2, 0, true)", x.see(-2, 0, true), -1);
        C.due(17, "see(0, 13, true)", x.see(0, 13, true), -2);
        C.due(17, "see(0, -1, true)", x.see(0, -1, true), -2);
        C.due(17, "see(-1, 99, true), empty", x.see(-1, 99, true), 0);
        for (int i = 1; i <= 5; i++) {
            C.due(17, "see(1, 12, false)", x.see(1, 12, false), i);
        }
        C.due(17, "see(1, 0, false), full", x.see(1, 0, false), -4);
        C.due(17, "see(1, 13, false), full", x.see(1, 13, false), -2);
        C.due(17, "see(7, 13, false), full", x.see(7, 13, false), -1);
        C.due(17, "count(3)", x.count(3), 5);
        C.due(17, "see(-1, -1, true)", x.see(-1, -1, true), 0);
        C.due(17, "count(3)", x.count(3), 0);
        C.due(17, "see(0, 0, true)", x.see(0, 0, true), 1);
    }

    private static void canRefused() {
        StruckWhile x = Check.ones(5);
        int[][] wrong = {{-1, 0, 0}, {1, 0, 0}, {0, -1, 0}, {0, 2, 0}, {0, 0, -1}, {0, 0, 2}};
        for (int[] call : wrong) {
            C.due(18, "can(" + call[0] + ", " + call[1] + ", " + call[2] + ")", x.can(call[0], call[1], call[2]), -1);
        }
        C.due(18, "no PEOPLE", new StruckWhile().can(0, 0, 0), -1);
    }

    private static void canIs(StruckWhile x, String name, int person, int... due) {
        for (int i = 0; i < 4; i++) {
            C.due(18, name + ": can(" + person + ", " + i / 2 + ", " + i % 2 + ")", x.can(person, i / 2, i % 2), due[i]);
        }
    }

    private static void heats() {
        StruckWhile x = Check.ones(5, 60);
        canIs(x, "nothing SEEN", 0, 100, 0, 10, 0);
        x.see(0, 0, true);
        canIs(x, "hot now", 0, 50, 50, 0, -5);
        canIs(x, "hot now", 1, 0, -5, 0, -5);
        x.see(0, 3, false);
        canIs(x, "hot now, not behind 3", 0, 0, -5, 0, -5);
        Check.square(x, "calm 5 p=0&h>2");
        canIs(x, "calm", 0, 15, 50, 0, -5);
        x.see(1, 12, true);
        canIs(x, "1 is hot, too", 0, 15, 50, 0, -5);
        x.see(1, 12, false);
        canIs(x, "1 is hot and is not", 0, 0, -5, 0, -5);
        x.see(-1, 0, false);
        x.see(0, 12, false);
        x.see(0, 0, false);
        canIs(x, "not hot", 0, 50, 0, 10, 0);
        C.due(18, "of(0, 2)", x.of(0, 2), 5);
        C.due(18, "told(0)", x.told(0), 0);
    }

    /** A LOVER rises by v, 3 less if hot: by v 1 one gets hot every third MINUTE. */
    private static void can() {
        StruckWhile x = new StruckWhile();
        x.one(4, 1, 30);
        x.one(0, 0, 0);
        x.work(999, 9);
        x.anvil(0);
        x.see(0, 4, true);
        canIs(x, "behind 4", 0, 46, 46, 5, 5);
        x.see(0, 3, false);
        canIs(x, "not behind 3", 0, 4, 46, 2, 5);
        x.see(0, 12, true);
        canIs(x, "behind 12", 0, 0, -5, 2, 5);
        C.due(18, "of(0, 1)", x.of(0, 1), 1);
        C.due(18, "of(0, 2)", x.of(0, 2), 30);
        C.due(18, "told(2)", x.told(2), 0);
        StruckWhile y = Check.ones(5, 40);
        Check.square(y, "heat 20 v>3&v<8&p=0|v=9&p=1");
        y.see(0, 3, true);
        canIs(y, "by CLAUSES", 0, 50, 50, 4, 4);
        y.see(0, 2, false);
        canIs(y, "by CLAUSES", 0, 0, -5, 4, 4);
        canIs(y, "by CLAUSES", 1, 0, -5, 0, -5);
    }

    private static void canOfAnother() {
        StruckWhile x = Check.ones(40, 10, 0);
        x.see(0, 1, true);
        canIs(x, "a spark of 1", 1, 20, 80, 0, -5);
        x.see(2, 5, true);
        canIs(x, "a spark of 1", 1, 20, 80, 0, -5);
        x.see(2, 4, true);
        canIs(x, "too soon", 1, 0, -5, 0, -5);
        x.away(1, true);
        canIs(x, "AWAY", 1, 0, -5, 0, -5);
        canIs(x, "AWAY", 0, 0, -5, 0, -5);
    }

    /** Five rows, each of which bars some HEATS: 1 gets 7 hotter each MINUTE. */
    private static void canByAllRows() {
        StruckWhile x = Check.ones(0, 0);
        Check.square(x, "heat 7 p=1;spark 99");
        x.see(1, 0, false);
        canIs(x, "one row", 1, 50, 0, 10, 0);
        x.see(1, 7, true);
        canIs(x, "two rows", 1, 49, 1, 0, -5);
        x.see(1, 2, false);
        canIs(x, "three rows", 1, 35, 1, 0, -5);
        x.see(1, 5, true);
        canIs(x, "four rows", 1, 21, 15, 0, -5);
        x.see(1, 3, false);
        canIs(x, "five rows", 1, 14, 15, 0, -5);
        canIs(x, "five rows", 0, 0, -5, 0, -5);
    }

    private static void oddsAre(StruckWhile x, String name, int person, int n, long above, long below) {
        C.due(19, name + ": odds(" + person + ", " + n + ", 0)", x.odds(person, n, 0), above);
        C.due(19, name + ": odds(" + person + ", " + n + ", 1)", x.odds(person, n, 1), below);
    }

    private static void oddsRefused() {
        StruckWhile x = Check.ones(5, 30);
        oddsAre(x, "no such one", 2, 0, NO, NO);
        oddsAre(x, "no such one", -1, 0, NO, NO);
        oddsAre(x, "n", 0, -1, NO, NO);
        oddsAre(x, "n", 0, 21, NO, NO);
        oddsAre(x, "20 MINUTES", 0, 20, 0, 1);
        C.due(19, "odds(0, 0, 2)", x.odds(0, 0, 2), NO);
        C.due(19, "odds(0, 0, -1)", x.odds(0, 0, -1), NO);
        x.away(0, true);
        x.away(1, true);
        oddsAre(x, "all AWAY", 0, 0, NO, NO);
        x.away(1, false);
        oddsAre(x, "one is AWAY", 0, 0, 0, 1);
        oddsAre(x, "one is AWAY", 1, 0, 1, 1);
    }

    private static void odds() {
        StruckWhile x = Check.ones(30, 29, 60, 5, 5, 5);
        oddsAre(x, "six", 0, 0, 1, 6);
        oddsAre(x, "six", 1, 0, 0, 1);
        oddsAre(x, "six", 2, 0, 1, 1);
        oddsAre(x, "a spark of 2", 1, 3, 1, 6);
        oddsAre(x, "a spark of 2", 1, 2, 0, 1);
        x.away(5, true);
        oddsAre(x, "five", 0, 0, 1, 5);
        x.away(4, true);
        oddsAre(x, "four", 1, 3, 1, 4);
        C.due(19, "told(5)", x.told(5), 134);
    }

    private static void oddsOfMore() {
        StruckWhile x = Check.ones(40, 79, 40, 60);
        x.work(999, 9);
        x.anvil(0);
        oddsAre(x, "the next to one", 0, 1, 1, 2);
        oddsAre(x, "nothing ON THE ANVIL", 1, 1, 1, 1);
        oddsAre(x, "two sparks", 2, 1, 3, 4);
        C.due(19, "told(2)", x.told(2), 0);
        StruckWhile y = Check.ones(85, 0);
        Check.square(y, "calm 5 p=0");
        oddsAre(y, "99 at most", 0, 9, 1, 2);
        oddsAre(y, "99 at most", 0, 10, 0, 1);
    }

    private static void meanIs(StruckWhile x, String name, int n, long above, long below) {
        C.due(20, name + ": mean(" + n + ", 0)", x.mean(n, 0), above);
        C.due(20, name + ": mean(" + n + ", 1)", x.mean(n, 1), below);
    }

    private static void meanRefused() {
        StruckWhile x = Check.ones(5);
        meanIs(x, "n", -1, NO, NO);
        meanIs(x, "n", 61, NO, NO);
        meanIs(x, "n", 60, 5, 1);
        C.due(20, "mean(0, 2)", x.mean(0, 2), NO);
        C.due(20, "mean(0, -1)", x.mean(0, -1), NO);
        meanIs(new StruckWhile(), "no PEOPLE", 0, NO, NO);
    }

    private static void mean() {
        StruckWhile x = Check.ones(10, 21, 30, 40);
        meanIs(x, "four", 0, 101, 4);
        x.work(80, 9);
        x.anvil(0);
        meanIs(x, "one gave", 1, 61, 4);
        meanIs(x, "two gave", 2, 31, 4);
        meanIs(x, "DONE", 4, 5, 2);
        x.heat(1, 20);
        meanIs(x, "by 4", 0, 25, 1);
        x.away(3, true);
        meanIs(x, "one is AWAY", 1, 35, 2);
        meanIs(Check.ones(0, 0, 0), "all 0", 5, 0, 1);
        meanIs(Check.ones(4, 5, 0, 0, 0, 0), "by 3", 5, 3, 2);
        C.due(20, "told(0)", x.told(0), 0);
        C.due(20, "told(5)", x.told(5), 100);
    }
}
