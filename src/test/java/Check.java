import java.nio.charset.StandardCharsets;
import java.util.Arrays;

/** Counts answers that are not due, and tells texts to an object. */
final class Check {
    private int asked;
    private int wrong;

    void due(String call, long got, long want) {
        asked++;
        if (got != want) {
            wrong++;
            System.out.println(call + " answered " + got + ", due is " + want);
        }
    }

    void due(String call, boolean got, boolean want) {
        due(call, got ? 1 : 0, want ? 1 : 0);
    }

    void yes(String call, boolean got) {
        due(call, got, true);
    }

    void no(String call, boolean got) {
        due(call, got, false);
    }

    /** text(k) of a text, which is one line of blanks and words. */
    void text(StormSeeds x, int k, String text, int want) {
        put(x, text);
        due("text(" + k + ") of \"" + text + "\"", x.text(k), want);
    }

    /** The text is refused with a fault at a place. */
    void fault(StormSeeds x, int k, String text, int fault, int place) {
        text(x, k, text, StormSeeds.NONE);
        due("fault(0) of \"" + text + "\"", x.fault(0), fault);
        due("fault(1) of \"" + text + "\"", x.fault(1), place);
    }

    /** Puts a text on the tape, which should be empty. */
    static void put(StormSeeds x, String text) {
        byte[] bytes = text.getBytes(StandardCharsets.ISO_8859_1);
        byte[] whole = Arrays.copyOf(bytes, (bytes.length + 19) / 20 * 20);
        for (int i = 0; i < whole.length; i += 20) {
            x.feed(number(whole, i), number(whole, i + 4), number(whole, i + 8),
                    number(whole, i + 12), number(whole, i + 16));
        }
        x.end(bytes.length);
    }

    private static int number(byte[] bytes, int at) {
        int number = 0;
        for (int i = 0; i < 4; i++) {
            number = number << 8 | bytes[at + i] & 255;
        }
        return number;
    }

    void end() {
        System.out.println(asked + " answers asked, " + wrong + " not as due");
        if (wrong != 0 || asked == 0) {
            System.exit(1);
        }
    }
}
