/** Puts texts on the tape of an object. */
final class Texts {
    private Texts() { }

    /** Five ints of twenty bytes of a text from a place on, blanks behind its end. */
    static int[] twenty(String text, int from) {
        int[] five = new int[5];
        for (int i = 0; i < 20; i++) {
            int sign = from + i < text.length() ? text.charAt(from + i) & 255 : ' ';
            five[i / 4] = five[i / 4] << 8 | sign;
        }
        return five;
    }

    /** Feeds just the text: what is fed too much is taken back. */
    static void put(CoatHangers x, String text) {
        for (int from = 0; from < text.length(); from += 20) {
            int[] f = twenty(text, from);
            x.feed(f[0], f[1], f[2], f[3], f[4]);
        }
        x.back((20 - text.length() % 20) % 20);
    }

    static int read(CoatHangers x, String text) {
        put(x, text);
        return x.read();
    }
}
