/** Promises 10 to 12: feed, square, told. */
public final class SquareTest {
    private static final Check C = new Check("squares");

    public static void main(String[] args) {
        feed();
        faults();
        faultAfterTenClauses();
        faultByNesting();
        squareHolds();
        sixSquares();
        nothingStaysOfAFault();
        nothingStaysOfALongerText();
        tests();
        joined();
        spark();
        told();
        C.end();
    }

    private static void feed() {
        StruckWhile x = new StruckWhile();
        C.due(10, "feed(-1)", x.feed(-1), -2);
        C.due(10, "feed(128)", x.feed(128), -2);
        C.due(10, "feed(0)", x.feed(0), 1);
        C.due(10, "feed(127)", x.feed(127), 2);
        for (int i = 3; i <= 100; i++) {
            C.due(10, "feed(104)", x.feed(104), i);
        }
        C.due(10, "feed(104), full", x.feed(104), -4);
        C.due(10, "feed(128), full", x.feed(128), -2);
        C.due(10, "count(6)", x.count(6), 100);
        C.due(10, "square()", x.square(), -10);
        C.due(10, "count(6)", x.count(6), 0);
        C.due(10, "feed(104)", x.feed(104), 1);
    }

    private static void fault(String text, int place) {
        StruckWhile x = new StruckWhile();
        C.due(11, "square of '" + text + "'", Check.square(x, text), -10 - place);
        C.due(11, "count(6) behind '" + text + "'", x.count(6), 0);
        C.due(11, "count(2) behind '" + text + "'", x.count(2), 0);
    }

    private static void faults() {
        fault("", 0);
        fault("x", 0);
        fault(" heat 1 p=1", 0);
        fault(";", 0);
        fault("h", 1);
        fault("heap 1 p=1", 3);
        fault("heat", 4);
        fault("heat1", 4);
        fault("heat  1 p=1", 5);
        fault("heat p=1", 5);
        fault("heat 1", 6);
        fault("heat 1;", 6);
        fault("heat 12", 7);
        fault("heat 123 p=1", 7);
        fault("heat 1 ", 7);
        fault("heat 1  p=1", 7);
        fault("heat 1 q=1", 7);
        fault("heat 1 p", 8);
        fault("heat 1 p!1", 8);
        fault("heat 1 p=", 9);
        fault("heat 1 p==1", 9);
        fault("heat 1 p=x", 9);
        fault("heat 1 p=123", 11);
        fault("heat 1 p=1 ", 10);
        fault("heat 1 p=1)", 10);
        fault("heat 1 p=1;", 11);
        fault("heat 1 p=1;;", 11);
        fault("heat 1 p=1; heat 1 p=1", 11);
        fault("heat 1 p=1&", 11);
        fault("heat 1 p=1|", 11);
        fault("heat 1 p=1||p=1", 11);
        fault("heat 1 p=1&|p=1", 11);
        fault("heat 1 p=1p", 10);
        fault("heat 1 !", 8);
        fault("heat 1 (", 8);
        fault("heat 1 ()", 8);
        fault("heat 1 (p=1", 11);
        fault("heat 1 (p=1;", 11);
        fault("heat 1 (p=1))", 12);
        fault("heat 1 (p=1)p", 12);
        fault("calx", 3);
        fault("calm 5", 6);
        fault("calm 5 p", 8);
        fault("s", 1);
        fault("spare", 4);
        fault("spark", 5);
        fault("spark ", 6);
        fault("spark x", 6);
        fault("spark 123", 8);
        fault("spark 1 ", 7);
        fault("spark 1;", 8);
        fault("spark 1;x", 8);
        fault("HEAT 1 p=1", 0);
        fault("heat 1 P=1", 7);
    }

    private static void faultAfterTenClauses() {
        String ten = "spark 1;spark 2;spark 3;spark 4;spark 5;spark 6;spark 7;spark 8;spark 9;spark 10";
        StruckWhile x = new StruckWhile();
        C.due(11, "ten clauses", Check.square(x, ten), 0);
        C.due(11, "told(1)", x.told(1), 10);
        fault(ten + ";", ten.length());
        fault(ten + ";spark 1", ten.length());
        fault(ten + "x", ten.length());
    }

    private static void faultByNesting() {
        String[] good = {"((((p=0))))", "!!!!p=0", "!(!(p=0))", "(!(!p=0))", "((((p=0))))&((((p=0))))", "!!!!p=0|!!!!p=0"};
        for (String e : good) {
            C.due(11, "square of " + e, Check.square(new StruckWhile(), "heat 1 " + e), 0);
        }
        fault("heat 1 (((((p=0)))))", 11);
        fault("heat 1 !!!!!p=0", 11);
        fault("heat 1 !(!(!p=0))", 11);
        fault("heat 1 (!(!(p=0)))", 11);
        fault("heat 1 ((((p=0&!p=0))))", 15);
        fault("heat 1 ((((p=0)))", 17);
        fault("heat 1 ((((p=0))))&(((((p=0)))))", 23);
    }

    private static void squareHolds() {
        StruckWhile x = Check.ones(0);
        C.due(11, "first", Check.square(x, "heat 5 p=0;spark 40"), 0);
        C.due(11, "of(0, 4)", x.of(0, 4), 5);
        C.due(11, "a FAULT", Check.square(x, "heat 7 p=0;spark 50;x"), -30);
        C.due(11, "of(0, 4) behind a FAULT", x.of(0, 4), 5);
        C.due(11, "told(1) behind a FAULT", x.told(1), 40);
        C.due(11, "second", Check.square(x, "heat 9 p=0"), 1);
        C.due(11, "of(0, 4) by the second", x.of(0, 4), 9);
        C.due(11, "told(1) by the second", x.told(1), 80);
    }

    private static void sixSquares() {
        StruckWhile x = Check.ones(0);
        for (int i = 0; i < 6; i++) {
            C.due(11, "square " + i, Check.square(x, "heat " + i + " p=0"), i);
        }
        C.due(11, "a seventh", Check.square(x, "heat 9 p=0"), -4);
        C.due(11, "THE TEXT stays", x.count(6), 10);
        C.due(11, "full and empty", new StruckWhile().square(), -10);
        C.due(11, "count(2)", x.count(2), 6);
        C.due(11, "of(0, 4)", x.of(0, 4), 5);
        x.feed('x');
        C.due(11, "FULL ahead of a FAULT", x.square(), -4);
        C.due(11, "count(6)", x.count(6), 11);
    }

    private static void nothingStaysOfAFault() {
        StruckWhile x = Check.ones(0);
        String none = "p=1" + "&p=1".repeat(21);
        for (int i = 0; i < 4; i++) {
            C.due(11, "a long FAULT", Check.square(x, "heat 1 " + none + ";s"), -10 - 96);
        }
        String all = "p=0" + "&p=0".repeat(21);
        C.due(11, "a long SQUARE", Check.square(x, "heat 2 " + all), 0);
        C.due(11, "of(0, 4)", x.of(0, 4), 2);
        C.due(11, "nine CLAUSES", Check.square(x, "heat 1 p=0;heat 2 p=0;heat 3 p=0;heat 4 p=0;heat 5 p=0;heat 6 p=0;"
            + "heat 7 p=0;heat 8 p=0;heat 9 p=0"), 1);
        C.due(11, "of(0, 4)", x.of(0, 4), 45);
    }

    private static void nothingStaysOfALongerText() {
        StruckWhile x = Check.ones(0, 0);
        C.due(11, "a longer text", Check.square(x, "heat 1 p=12&(p=1);spark 12;x"), -10 - 27);
        String[] early = {"heat 1 p=1", "heat 1 p=12&(p=1)", "heat 1 p=12&(p=1);spark 1"};
        for (int i = 0; i < early.length; i++) {
            C.due(11, "square of '" + early[i] + "'", Check.square(x, early[i]), i);
            C.due(11, "a longer text", Check.square(x, "heat 1 p=12&(p=1);spark 12;x"), -10 - 27);
        }
        String[] fault = {"heat 1 p=12&(p=1", "heat 1 p=12&(p", "heat 1 p=12&", "heat 1", "hea", "heat 1 p=12&(p=1);spark"};
        for (String text : fault) {
            C.due(11, "square of '" + text + "'", Check.square(x, text), -10 - text.length());
            C.due(11, "a longer text", Check.square(x, "heat 1 p=12&(p=1);spark 12;x"), -10 - 27);
        }
    }

    /** The RISE of one by a SQUARE with this E is 1, if it holds, else 0. */
    private static void holds(StruckWhile x, int person, String e, int due) {
        StruckWhile y = new StruckWhile();
        for (int p = 0; p < x.count(0); p++) {
            y.one(x.of(p, 0), x.of(p, 1), x.of(p, 2));
            y.away(p, x.of(p, 3) == 1);
        }
        for (int p = 0; p < x.count(0); p++) {
            y.away(p, true);
        }
        y.pass(x.told(0));
        for (int p = 0; p < x.count(0); p++) {
            y.away(p, x.of(p, 3) == 1);
        }
        int without = y.of(person, 4);
        C.due(11, "square of " + e, Check.square(y, "heat 10 " + e), 0);
        C.due(11, e + " of " + person, y.of(person, 4) - without, due * 10);
    }

    private static void tests() {
        StruckWhile x = new StruckWhile();
        x.one(0, 3, 59);
        x.one(1, 5, 99);
        x.one(5, 0, 9);
        x.one(2, 9, 50);
        x.away(0, true);
        x.away(1, true);
        x.away(2, true);
        x.away(3, true);
        x.pass(17);
        x.away(1, false);
        x.away(2, false);
        x.away(3, false);
        numbers(x, 2, 'p', 2);
        numbers(x, 0, 'p', 0);
        numbers(x, 1, 'k', 1);
        numbers(x, 2, 'k', 5);
        numbers(x, 0, 'v', 3);
        numbers(x, 3, 'v', 9);
        numbers(x, 0, 'h', 5);
        numbers(x, 1, 'h', 9);
        numbers(x, 2, 'h', 0);
        numbers(x, 0, 'n', 1);
        numbers(x, 1, 'n', 0);
        numbers(x, 2, 'n', 2);
        numbers(x, 3, 'n', 0);
        numbers(x, 1, 'm', 7);
        holds(x, 0, "v=03", 1);
        holds(x, 0, "v<99", 1);
        holds(x, 0, "v>99", 0);
        holds(x, 0, "v=13", 0);
    }

    /** The letter says the number n: it is none less and none more. */
    private static void numbers(StruckWhile x, int person, char letter, int n) {
        holds(x, person, letter + "=" + n, 1);
        holds(x, person, letter + "<" + n, 0);
        holds(x, person, letter + ">" + n, 0);
        holds(x, person, letter + "=" + (n + 1), 0);
        holds(x, person, letter + "<" + (n + 1), 1);
        holds(x, person, letter + ">" + (n + 1), 0);
        if (n > 0) {
            holds(x, person, letter + "=" + (n - 1), 0);
            holds(x, person, letter + "<" + (n - 1), 0);
            holds(x, person, letter + ">" + (n - 1), 1);
        }
    }

    /** v is 3 and so t holds and f does not. */
    private static void joined() {
        StruckWhile x = new StruckWhile();
        x.one(0, 3, 0);
        String[] so = {"t|t", "t|f", "f|t", "t&t", "!f", "!(f)", "!!t", "(t)", "t|t&f", "f&f|t", "t|f&f", "!f&t",
            "!f|f", "!(t&f)", "(t|f)&t", "!(f|f)&!(t&f)", "f|f|t", "t&t&t", "!!!!t", "((((t))))", "!f&!f", "t&(f|(f|(f|t)))",
            "f|f&f|f&t|t", "(t&t|f)&(f|t&t)", "t|t&p<0", "p<0|t",
            "f|t&(f|t&(f|t&(f|t&(f|t&t))))"};
        String[] not = {"f|f", "t&f", "f&t", "f&f", "!t", "!!f", "(f)", "(t|t)&f", "!t|f", "!t&t", "!(t|f)", "f|f|f",
            "t&t&f", "t&f&t", "f&t&t", "!!!t", "f&t|t&f", "!(t|t)|f&t", "f&(t|t)", "!f&f", "(t|f)&(f|f)", "!(!(f))", "p<0",
            "f|t&(f|t&(f|t&(f|t&(f|t&f))))"};
        for (String e : so) {
            holds(x, 0, e.replace("t", "v=3").replace("f", "v=4"), 1);
        }
        for (String e : not) {
            holds(x, 0, e.replace("t", "v=3").replace("f", "v=4"), 0);
        }
        Check.square(x, "heat 40 v=3;calm 9 v=4;calm 3 v=3;heat 2 v=3&p=0;spark 5;heat 1 v=4");
        C.due(11, "several clauses", x.of(0, 4), 39);
    }

    private static void spark() {
        StruckWhile x = new StruckWhile();
        Check.square(x, "spark 7;heat 1 p=1;spark 09");
        C.due(12, "the last spark", x.told(1), 9);
        Check.square(x, "heat 1 p=1;calm 1 p=1");
        C.due(12, "no spark clause", x.told(1), 80);
        Check.square(x, "spark 0");
        C.due(12, "spark 0", x.told(1), 0);
        Check.square(x, "spark 99");
        C.due(12, "spark 99", x.told(1), 99);
    }

    private static void told() {
        StruckWhile x = Check.ones(5, 70, 70, 90);
        x.away(3, true);
        x.work(5, 5);
        x.work(9, 5);
        x.work(60, 5);
        x.anvil(2);
        C.due(12, "told(4)", x.told(4), 1);
        C.due(12, "told(5)", x.told(5), 235);
        C.due(12, "told(3)", x.told(3), 0);
        x.pass(1);
        C.due(12, "told(0)", x.told(0), 1);
        C.due(12, "told(2)", x.told(2), 2);
        C.due(12, "told(3)", x.told(3), 4);
        C.due(12, "told(4)", x.told(4), 2);
        C.due(12, "told(5)", x.told(5), 165);
        x.anvil(0);
        x.pass(1);
        C.due(12, "told(3), two", x.told(3), 5);
        x.away(0, true);
        x.away(1, true);
        x.away(2, true);
        C.due(12, "told(4), all AWAY", x.told(4), -5);
        C.due(12, "told(5), all AWAY", x.told(5), 95);
        C.due(12, "told(-1)", x.told(-1), -1);
        C.due(12, "told(6)", x.told(6), -1);
    }
}
