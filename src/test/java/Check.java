import java.nio.charset.StandardCharsets;

/** What the project's tests share: counting wrong answers, and feeding a text. */
final class Check {
    private int wrong = 0;
    private int asked = 0;

    void due(String call, long got, long want) {
        asked++;
        if (got == want) return;
        wrong++;
        System.out.println(call + " answered " + got + ", due is " + want);
    }

    void due(String call, boolean got, boolean want) {
        due(call, got ? 1 : 0, want ? 1 : 0);
    }

    int wrong() {
        return wrong;
    }

    void end() {
        System.out.println(asked + " answers looked at, " + wrong + " wrong");
        if (wrong != 0 || asked == 0) System.exit(1);
    }

    static void feed(WordHouse x, String text) {
        byte[] bytes = text.getBytes(StandardCharsets.ISO_8859_1);
        for (int at = 0; at < bytes.length; at += 20) {
            x.feed(number(bytes, at), number(bytes, at + 4), number(bytes, at + 8),
                number(bytes, at + 12), number(bytes, at + 16));
        }
    }

    static int house(WordHouse x, String text) {
        feed(x, text);
        return x.house(text.length());
    }

    static WordHouse of(String text) {
        WordHouse x = new WordHouse();
        int entries = house(x, text);
        if (entries < 0) {
            throw new IllegalStateException("fault " + x.fault() + " at " + x.where() + " in " + text);
        }
        return x;
    }

    private static int number(byte[] bytes, int at) {
        int n = 0;
        for (int k = at; k < at + 4; k++) n = n << 8 | (k < bytes.length ? bytes[k] & 255 : 32);
        return n;
    }
}
