/** Types, prints and shows whole texts, and all that a quarrel tells of itself. */
final class Picture {
    private Picture() {
    }

    static PamphletQuarrel type(PamphletQuarrel x, String text) {
        for (int i = 0; i < text.length(); i++) {
            x.append(text.charAt(i));
        }
        return x;
    }

    static int print(PamphletQuarrel x, int author, String text) {
        return type(x, text).print(author);
    }

    /** A new quarrel of the author 0 with these pamphlets, one a day. */
    static PamphletQuarrel daily(String... texts) {
        PamphletQuarrel x = new PamphletQuarrel();
        for (String text : texts) {
            print(x, 0, text);
            x.pass(1);
        }
        return x;
    }

    static String word(PamphletQuarrel x, int pamphlet, int word) {
        StringBuilder letters = new StringBuilder();
        int code = x.letterOf(pamphlet, word, 0);
        for (int i = 1; code != PamphletQuarrel.NONE; i++) {
            letters.append((char) code);
            code = x.letterOf(pamphlet, word, i);
        }
        return letters.toString();
    }

    static String words(PamphletQuarrel x, int pamphlet) {
        StringBuilder words = new StringBuilder();
        for (int i = 0; i < x.wordsOf(pamphlet); i++) {
            words.append(i == 0 ? "" : " ").append(word(x, pamphlet, i));
        }
        return words.toString();
    }

    static String entry(PamphletQuarrel x, int place) {
        StringBuilder letters = new StringBuilder();
        int code = x.glossaryLetter(place, 0);
        for (int i = 1; code != PamphletQuarrel.NONE; i++) {
            letters.append((char) code);
            code = x.glossaryLetter(place, i);
        }
        return letters.toString();
    }

    static String glossary(PamphletQuarrel x) {
        StringBuilder entries = new StringBuilder();
        for (int i = 0; i < x.glossary(); i++) {
            entries.append(i == 0 ? "" : " ").append(entry(x, i)).append(x.timesOf(i));
        }
        return entries.toString();
    }

    static String quotation(PamphletQuarrel x, int pamphlet, int quotation) {
        return "@" + x.sourceOf(pamphlet, quotation)
                + " " + x.beginOf(pamphlet, quotation)
                + "+" + x.lengthOf(pamphlet, quotation);
    }

    /** What of a quotation the words of its source decide. */
    static String passage(PamphletQuarrel x, int pamphlet, int quotation) {
        return x.changesByTable(pamphlet, quotation)
                + " " + x.changesByPassages(pamphlet, quotation)
                + " at " + x.passageOf(pamphlet, quotation)
                + "+" + x.passageLength(pamphlet, quotation);
    }

    static String of(PamphletQuarrel x) {
        StringBuilder picture = new StringBuilder();
        picture.append("day ").append(x.day());
        picture.append(", saved ").append(x.savedStates());
        picture.append(", buffer ").append(x.errorPosition()).append(' ').append(x.whyNotPrinted());
        for (int i = 0; i < x.pamphlets(); i++) {
            picture.append("; ").append(x.authorOf(i)).append(" on ").append(x.dayOf(i));
            picture.append(": ").append(words(x, i));
            for (int j = 0; j < x.quotationsOf(i); j++) {
                picture.append(" [").append(quotation(x, i, j)).append("]");
            }
        }
        return picture.toString();
    }
}
