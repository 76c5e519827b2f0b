/** Counts and prints the answers that are not as due. */
final class Check {
    private final String topic;
    private int asked;
    private int wrong;

    Check(String topic) {
        this.topic = topic;
    }

    void due(int promise, String call, long got, long want) {
        asked++;
        if (got != want) {
            wrong++;
            System.out.println("promise " + promise + ": " + call + " answered " + got + ", due is " + want);
        }
    }

    void holds(String what, boolean is) {
        asked++;
        if (!is) {
            wrong++;
            System.out.println("not so: " + what);
        }
    }

    void end() {
        System.out.println(topic + ": " + asked + " asked, " + wrong + " wrong");
        if (wrong != 0) {
            System.exit(1);
        }
    }

    /** Feeds a text and makes it a SQUARE: what square() answered. */
    static int square(StruckWhile x, String text) {
        for (int i = 0; i < text.length(); i++) {
            x.feed(text.charAt(i));
        }
        return x.square();
    }

    /** A new object with PEOPLE of KIND ONE and v 0, as hot as told. */
    static StruckWhile ones(int... heats) {
        StruckWhile x = new StruckWhile();
        for (int heat : heats) {
            x.one(0, 0, heat);
        }
        return x;
    }

    /** The HEAT of all, as one text. */
    static String heats(StruckWhile x) {
        StringBuilder all = new StringBuilder();
        for (int p = 0; p < x.count(0); p++) {
            all.append(p == 0 ? "" : " ").append(x.of(p, 2));
        }
        return all.toString();
    }
}
