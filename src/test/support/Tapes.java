import java.nio.charset.StandardCharsets;

/** Puts texts on the tape of a BrassYear. */
final class Tapes {
    private Tapes() {
    }

    /** Feeds the text with blanks behind it, as many as the last twenty bytes need. */
    static void feed(BrassYear x, String text) {
        byte[] bytes = text.getBytes(StandardCharsets.ISO_8859_1);
        for (int i = 0; i < bytes.length; i += 20) {
            x.feed(word(bytes, i), word(bytes, i + 4), word(bytes, i + 8), word(bytes, i + 12), word(bytes, i + 16));
        }
    }

    static int word(byte[] bytes, int from) {
        int word = 0;
        for (int i = from; i < from + 4; i++) {
            word = word << 8 | (i < bytes.length ? bytes[i] & 255 : 32);
        }
        return word;
    }

    /** Feeds the text and tells it as the orrery; the tape must be empty. */
    static int tell(BrassYear x, String text) {
        feed(x, text);
        return x.orrery(text.length());
    }
}
