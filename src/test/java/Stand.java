/** Quarrels that tests begin with, and texts of chosen length. */
final class Stand {
    static final int LOWEST = Integer.MIN_VALUE;
    static final int HIGHEST = Integer.MAX_VALUE;

    // Of these words the 22 that are not x, quoted, have a passage of 32 words.
    static final String SPACED = "a b x c d x e f x g h x i j x k l x m n x o p x q r x s t x u v";

    private Stand() {
    }

    /** No pamphlets and nothing saved, but a text in the buffer. */
    static PamphletQuarrel empty() {
        return Picture.type(new PamphletQuarrel(), "a");
    }

    /**
     * Three pamphlets, the pamphlet 1 with one quotation, the pamphlet 2 with two; five saved
     * states, a snapshot, a buffer that can be printed, and no pamphlet of this day.
     */
    static PamphletQuarrel rich() {
        PamphletQuarrel x = new PamphletQuarrel();
        Picture.print(x, 0, "a b c");
        x.pass(1);
        Picture.print(x, 5, "\"a z\"@0 d");
        x.pass(1);
        x.takeSnapshot();
        Picture.print(x, 7, "\"d\"@1 \"b b\"@0");
        x.pass(2);
        return Picture.type(x, "e f");
    }

    /** As rich(), with another buffer. */
    static PamphletQuarrel rich(String buffer) {
        PamphletQuarrel x = rich();
        x.clearText();
        return Picture.type(x, buffer);
    }

    /** So many pamphlets of one word on the day 0, the authors by turns, and a text to print. */
    static PamphletQuarrel many(int count) {
        PamphletQuarrel x = new PamphletQuarrel();
        for (int i = 0; i < count; i++) {
            x.append('a' + i);
            x.print(i % 8);
        }
        return Picture.type(x, "z");
    }

    /** Twenty pamphlets; the last one, of the day 1, quotes the first fourteen unfaithfully. */
    static PamphletQuarrel full() {
        PamphletQuarrel x = many(19);
        x.clearText();
        x.pass(1);
        StringBuilder text = new StringBuilder();
        for (int i = 0; i < 14; i++) {
            text.append(i == 0 ? "" : " ").append("\"z\"@").append(i);
        }
        Picture.print(x, 0, text.toString());
        return Picture.type(x, "z");
    }

    /** The first letters of the alphabet, each a word. */
    static String letters(int count) {
        StringBuilder letters = new StringBuilder();
        for (int i = 0; i < count; i++) {
            letters.append(i == 0 ? "" : " ").append((char) ('a' + i));
        }
        return letters.toString();
    }

    /** The first letters of the alphabet, each a word, quoted. */
    static String quoted(int count, int source) {
        return "\"" + letters(count) + "\"@" + source;
    }

    /** So many words. */
    static String times(String word, int count) {
        return word + (" " + word).repeat(count - 1);
    }
}
