/** Feeds a text, padded to whole calls of feed(). */
final class Feeding {
    private static final int BYTES = 20;

    private Feeding() {
    }

    static void feedText(CalendarSync sync, String text) {
        for (int at = 0; at < text.length(); at += BYTES) {
            sync.feed(four(text, at), four(text, at + 4), four(text, at + 8), four(text, at + 12), four(text, at + 16));
        }
    }

    static int loadText(CalendarSync sync, String text) {
        feedText(sync, text);
        return sync.load(text.length());
    }

    static CalendarSync of(String text) {
        CalendarSync sync = new CalendarSync();
        loadText(sync, text);
        return sync;
    }

    static int four(String text, int at) {
        int word = 0;
        for (int k = at; k < at + 4; k++) {
            word = word << 8 | (k < text.length() ? text.charAt(k) & 255 : ' ');
        }
        return word;
    }
}
