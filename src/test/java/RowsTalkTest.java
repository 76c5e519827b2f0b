/** Promises 15 and 16: best, talk. */
public final class RowsTalkTest {
    private static final Check C = new Check("rows and talk");

    public static void main(String[] args) {
        bestRefused();
        bestOfNone();
        bestOfOneGiver();
        bestByDue();
        bestWithDone();
        bestGoesOnBehindTheDue();
        bestIsTheLastRow();
        bestLongRow();
        talkRefused();
        talk();
        talkOfSeveralTheFirst();
        talkAnvilAndAway();
        C.end();
    }

    private static void bestIs(StruckWhile x, String name, int n, int... due) {
        for (int k = -1; k < 4; k++) {
            C.due(15, name + ": best(" + n + ", " + k + ")", x.best(n, k), k + 1 < due.length ? due[k + 1] : -5);
        }
    }

    private static void bestRefused() {
        StruckWhile x = new StruckWhile();
        C.due(15, "best(-1, -2)", x.best(-1, -2), -1);
        C.due(15, "best(41, 4)", x.best(41, 4), -1);
        C.due(15, "best(-1, 0)", x.best(-1, 0), -2);
        C.due(15, "best(41, -1)", x.best(41, -1), -2);
        C.due(15, "best(0, 3)", x.best(0, 3), -5);
        C.due(15, "best(40, 3)", x.best(40, 3), -5);
    }

    private static void bestOfNone() {
        bestIs(new StruckWhile(), "no WORKS", 5, 0);
        StruckWhile x = new StruckWhile();
        x.work(5, 5);
        x.work(6, 5);
        bestIs(x, "no PEOPLE", 40, 0, 0, 1);
        StruckWhile y = Check.ones(99);
        y.work(5, 5);
        y.work(6, 5);
        bestIs(y, "no MINUTES", 0, 0, 0, 1);
    }

    /** Six who do not rise: 60, 50, 40, 30, 20, 10 are given, in that row. */
    private static StruckWhile six() {
        return Check.ones(10, 20, 30, 40, 50, 60);
    }

    private static void bestOfOneGiver() {
        StruckWhile x = six();
        x.work(150, 60);
        x.work(100, 60);
        x.work(51, 60);
        bestIs(x, "150 100 51, 1", 1, 1, 2, 0, 1);
        bestIs(x, "150 100 51, 2", 2, 1, 1, 0, 2);
        bestIs(x, "150 100 51, 3", 3, 1, 0, 1, 2);
        bestIs(x, "150 100 51, 6", 6, 2, 0, 2, 1);
        C.due(15, "told(5)", x.told(5), 210);
        C.due(15, "told(0)", x.told(0), 0);
    }

    private static void bestByDue() {
        StruckWhile x = six();
        x.work(60, 2);
        x.work(60, 1);
        x.work(10, 0);
        x.work(20, 5);
        bestIs(x, "due 2 1 0 5", 40, 2, 0, 1, 2, 3);
        StruckWhile y = six();
        y.work(90, 4);
        y.work(60, 1);
        bestIs(y, "due 4 1", 40, 2, 1, 0);
        bestIs(y, "due 4 1", 3, 2, 1, 0);
        bestIs(y, "due 4 1", 2, 1, 0, 1);
    }

    private static void bestWithDone() {
        StruckWhile x = six();
        x.work(61, 60);
        x.work(60, 0);
        x.work(50, 1);
        x.anvil(1);
        x.pass(1);
        bestIs(x, "1 is DONE", 0, 1, 0, 1, 2);
        bestIs(x, "1 is DONE", 1, 2, 1, 2, 0);
        bestIs(x, "1 is DONE", 4, 3, 1, 2, 0);
        bestIs(x, "1 is DONE", 2, 2, 0, 1, 2);
        C.due(15, "told(2)", x.told(2), 1);
        StruckWhile y = six();
        y.work(61, 60);
        y.work(50, 1);
        y.work(60, 0);
        y.anvil(2);
        y.pass(1);
        bestIs(y, "2 is DONE", 1, 2, 1, 0, 2);
    }

    /** What is not DONE by its DUE stays ON THE ANVIL all the same. */
    private static void bestGoesOnBehindTheDue() {
        StruckWhile x = six();
        x.work(160, 1);
        x.work(50, 4);
        x.work(110, 3);
        bestIs(x, "due 1 4 3", 40, 2, 2, 1, 0);
        StruckWhile y = six();
        y.work(160, 1);
        y.work(50, 4);
        y.work(90, 3);
        bestIs(y, "90 by 3", 40, 2, 1, 2, 0);
    }

    private static void bestIsTheLastRow() {
        StruckWhile x = six();
        x.work(30, 4);
        x.work(40, 3);
        x.work(50, 2);
        x.work(60, 1);
        bestIs(x, "backwards", 40, 4, 3, 2, 1, 0);
        bestIs(x, "backwards", 3, 3, 0, 2, 1, 3);
        bestIs(x, "backwards", 2, 2, 0, 1, 2, 3);
    }

    private static void bestLongRow() {
        StruckWhile x = Check.ones(0, 0);
        Check.square(x, "heat 1 p<9");
        x.work(10, 60);
        x.work(9, 60);
        x.work(10, 60);
        x.work(10, 60);
        bestIs(x, "39 by 40", 40, 4, 0, 1, 2, 3);
        bestIs(x, "39 by 39", 39, 3, 0, 1, 2, 3);
        bestIs(x, "29 by 30", 30, 3, 0, 1, 2, 3);
        bestIs(x, "by 20", 20, 2, 0, 1, 2, 3);
        bestIs(x, "by 10", 10, 1, 1, 0, 2, 3);
        bestIs(x, "by 9", 9, 0, 0, 1, 2, 3);
    }

    private static void talkRefused() {
        StruckWhile x = Check.ones(5);
        C.due(16, "talk(100, 2)", x.talk(100, 2), -1);
        C.due(16, "talk(-1, -1)", x.talk(-1, -1), -1);
        C.due(16, "talk(-1, 0)", x.talk(-1, 0), -2);
        C.due(16, "talk(100, 1)", x.talk(100, 1), -2);
        C.due(16, "talk(0, 1)", x.talk(0, 1), 5);
        C.due(16, "talk(99, 1)", x.talk(99, 1), 99);
        x.away(0, true);
        C.due(16, "talk(5, 0), all AWAY", x.talk(5, 0), -5);
        C.due(16, "talk(5, 1), all AWAY", x.talk(5, 1), -5);
        C.due(16, "talk(100, 1), all AWAY", x.talk(100, 1), -2);
        StruckWhile y = new StruckWhile();
        C.due(16, "talk(5, 0), no PEOPLE", y.talk(5, 0), -5);
        C.due(16, "talk(5, 1), no PEOPLE", y.talk(5, 1), -5);
    }

    private static void talkIs(StruckWhile x, String name, int n, int who, int much) {
        C.due(16, name + ": talk(" + n + ", 0)", x.talk(n, 0), who);
        C.due(16, name + ": talk(" + n + ", 1)", x.talk(n, 1), much);
    }

    private static void talk() {
        StruckWhile x = Check.ones(30, 50, 20);
        talkIs(x, "cold", 9, 1, 59);
        talkIs(x, "cold", 25, 1, 75);
        talkIs(x, "sparks", 30, 1, 80);
        StruckWhile y = Check.ones(70, 65);
        talkIs(y, "sparks of 0", 10, 0, 95);
        talkIs(y, "sparks of both", 15, 1, 99);
        talkIs(y, "sparks of none", 9, 0, 79);
        StruckWhile z = Check.ones(10, 30, 5);
        Check.square(z, "heat 9 p=0;calm 4 p=1&h<4;heat 1 p=2;spark 20");
        talkIs(z, "square", 0, 0, 67);
        talkIs(z, "square", 15, 0, 82);
        C.due(16, "told(0)", z.told(0), 0);
        C.due(16, "told(5)", z.told(5), 45);
    }

    private static void talkOfSeveralTheFirst() {
        StruckWhile x = Check.ones(20, 40, 40);
        talkIs(x, "alike", 5, 1, 45);
        talkIs(x, "0 more", 0, 0, 40);
        talkIs(Check.ones(99, 0), "99 at most", 9, 0, 99);
        talkIs(six(), "the last one", 5, 5, 65);
    }

    private static void talkAnvilAndAway() {
        StruckWhile x = Check.ones(30, 50, 70);
        x.away(2, true);
        x.work(999, 5);
        x.anvil(0);
        talkIs(x, "ON THE ANVIL", 5, 1, 55);
        talkIs(x, "ON THE ANVIL", 0, 0, 50);
        C.due(16, "told(2)", x.told(2), 0);
        x.away(1, true);
        talkIs(x, "two AWAY", 9, 0, 39);
    }
}
