/** Tells texts to an engine byte by byte, as a user of the class would. */
final class Teller {
    private Teller() {
    }

    /** The tape has this text alone then; how long it is. */
    static int put(EpochEngine x, String text) {
        x.end(0);
        for (int at = 0; at < text.length(); at += 20) {
            x.feed(four(text, at), four(text, at + 4), four(text, at + 8), four(text, at + 12), four(text, at + 16));
        }
        return x.end(text.length());
    }

    /** A text of a sort: what text() answers. */
    static int tell(EpochEngine x, int sort, int at, String text) {
        put(x, text);
        return x.text(sort, at);
    }

    /** Four bytes of a text as one number, blanks behind its end. */
    static int four(String text, int at) {
        int number = 0;
        for (int i = at; i < at + 4; i++) {
            number = number << 8 | (i < text.length() ? text.charAt(i) & 255 : ' ');
        }
        return number;
    }
}
