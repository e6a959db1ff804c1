/** Puts texts on THE TAPE, as the interface takes them. */
final class Tapes {
    private Tapes() {
    }

    /** The tape is to be used up before; a text of at most 96 bytes. */
    static void put(QuarterTurn x, String text) {
        if (text.length() > 96) throw new IllegalArgumentException(text);
        for (int i = 0; i < text.length(); i += 12) x.feed(four(text, i), four(text, i + 4), four(text, i + 8));
        x.trim(text.length());
    }

    static int tell(QuarterTurn x, String text) {
        put(x, text);
        return x.text();
    }

    static int four(String text, int at) {
        int all = 0;
        for (int i = at; i < at + 4; i++) all = all << 8 | (i < text.length() ? text.charAt(i) & 255 : ' ');
        return all;
    }
}
