import java.util.Random;

/** Promise 11: the FAULT of many texts is where the document's grammar, followed word for word, has none. */
public final class FaultTest {
    private static final Check C = new Check("faults");

    public static void main(String[] args) {
        ModelTest.Texts texts = new ModelTest.Texts(new Random(7));
        int squares = 0;
        for (int i = 0; i < 3000; i++) {
            String text = texts.next();
            if (text.length() <= 100) {
                squares += compare(text) ? 1 : 0;
            }
        }
        C.holds("many of the texts are SQUARES: " + squares, squares > 1000);
        everyShortEnd();
        C.end();
    }

    private static boolean compare(String text) {
        int fault = Grammar.fault(text);
        C.due(11, "square of '" + text + "'", Check.square(new StruckWhile(), text), fault < 0 ? 0 : -10 - fault);
        return fault < 0;
    }

    /** Each of these beginnings with each sign behind it. */
    private static void everyShortEnd() {
        String whole = "heat 12 !(p<3&(k=04|!v>9));calm 7 h>1;spark 50";
        for (int length = 0; length <= whole.length(); length++) {
            compare(whole.substring(0, length));
            for (char sign = 0; sign < 128; sign++) {
                compare(whole.substring(0, length) + sign);
            }
        }
    }
}
