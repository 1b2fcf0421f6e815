/** Types, prints and shows whole texts, and all that a quarrel tells of itself. */
final class Picture {
    private Picture() {
    }

    static PamphletQuarrel type(PamphletQuarrel x, String text) {
        for (int i = 0; i < text.length(); i++) {
            x.append(text.charAt(i));
        }
        return x;
    }

    static int print(PamphletQuarrel x, int author, String text) {
        return type(x, text).print(author);
    }

    /** A new quarrel of the author 0 with these pamphlets, one a day. */
    static PamphletQuarrel daily(String... texts) {
        PamphletQuarrel x = new PamphletQuarrel();
        for (String text : texts) {
            print(x, 0, text);
            x.pass(1);
        }
        return x;
    }

    static String word(PamphletQuarrel x, int pamphlet, int word) {
        StringBuilder letters = new StringBuilder();
        int code = x.letterOf(pamphlet, word, 0);
        for (int i = 1; code != PamphletQuarrel.NONE && i < 10; i++) {
            letters.append((char) code);
            code = x.letterOf(pamphlet, word, i);
        }
        return letters.toString();
    }

    static String words(PamphletQuarrel x, int pamphlet) {
        StringBuilder words = new StringBuilder();
        int count = x.wordsOf(pamphlet);
        for (int i = 0; i < count; i++) {
            words.append(i == 0 ? "" : " ").append(word(x, pamphlet, i));
        }
        return words.toString();
    }

    static String entry(PamphletQuarrel x, int place) {
        StringBuilder letters = new StringBuilder();
        int code = x.glossaryLetter(place, 0);
        for (int i = 1; code != PamphletQuarrel.NONE && i < 10; i++) {
            letters.append((char) code);
            code = x.glossaryLetter(place, i);
        }
        return letters.toString();
    }

    static String glossary(PamphletQuarrel x) {
        StringBuilder entries = new StringBuilder();
        int count = x.glossary();
        for (int i = 0; i < count; i++) {
            entries.append(i == 0 ? "" : " ").append(entry(x, i)).append(x.timesOf(i));
        }
        return entries.toString();
    }

    static String quotation(PamphletQuarrel x, int pamphlet, int quotation) {
        return "@" + x.sourceOf(pamphlet, quotation)
                + " " + x.beginOf(pamphlet, quotation)
                + "+" + x.lengthOf(pamphlet, quotation);
    }

    /** What of a quotation the words of its source decide. */
    static String passage(PamphletQuarrel x, int pamphlet, int quotation) {
        return x.changesByTable(pamphlet, quotation)
                + " " + x.changesByPassages(pamphlet, quotation)
                + " at " + x.passageOf(pamphlet, quotation)
                + "+" + x.passageLength(pamphlet, quotation);
    }

    /** What of a quotation the quotations of its source decide. */
    static String trace(PamphletQuarrel x, int pamphlet, int quotation) {
        return "from " + x.comesFrom(pamphlet, quotation)
                + " of " + x.originOf(pamphlet, quotation)
                + " through " + x.traceOf(pamphlet, quotation)
                + " with " + x.changesAtOrigin(pamphlet, quotation);
    }

    /** The state: what all other answers follow from; and what can be told of the buffer. */
    static String of(PamphletQuarrel x) {
        StringBuilder picture = new StringBuilder();
        picture.append("day ").append(x.day());
        picture.append(", saved ").append(x.savedStates());
        picture.append(", buffer ").append(x.errorPosition()).append(' ').append(x.whyNotPrinted());
        int pamphlets = x.pamphlets();
        for (int i = 0; i < pamphlets; i++) {
            picture.append("; ").append(x.authorOf(i)).append(" on ").append(x.dayOf(i));
            picture.append(": ").append(words(x, i));
            int quotations = x.quotationsOf(i);
            for (int j = 0; j < quotations; j++) {
                picture.append(" [").append(quotation(x, i, j)).append("]");
            }
        }
        return picture.toString();
    }

    /** The answers of all methods of the face that only ask; of pamphlets between the ends, few. */
    static String whole(PamphletQuarrel x) {
        StringBuilder picture = new StringBuilder(of(x));
        picture.append("\nshare ").append(x.faithfulShare());
        picture.append(", blame ").append(x.blameByAuthors());
        picture.append('=').append(x.blameBySources());
        for (int author = 0; author < 8; author++) {
            picture.append(' ').append(x.blameOf(author));
            picture.append('(').append(x.wrongs(author, 0));
            picture.append(' ').append(x.wrongs(author, author)).append(')');
        }
        int pamphlets = x.pamphlets();
        picture.append("\nglossary ").append(pamphlets <= 6 ? glossary(x) : "" + x.glossary());
        for (int i = 0; i < pamphlets; i++) {
            if (i < 2 || i >= pamphlets - 2) {
                picture.append('\n').append(i).append(": ").append(whole(x, i));
            }
        }
        return picture.toString();
    }

    private static String whole(PamphletQuarrel x, int pamphlet) {
        StringBuilder picture = new StringBuilder();
        picture.append(x.pagesOf(pamphlet)).append(" pages, ").append(x.wordsOn(pamphlet, 0));
        picture.append(x.isSameWord(pamphlet, 0, 0, 0) ? " the same word, " : " another word, ");
        picture.append(ladders(x, pamphlet)).append(x.answers(pamphlet, 0) ? " answers" : "");
        int quotations = x.quotationsOf(pamphlet);
        for (int j = 0; j < quotations && j < 3; j++) {
            picture.append(" [").append(passage(x, pamphlet, j));
            picture.append(" on ").append(x.pageOf(pamphlet, j));
            picture.append(' ').append(trace(x, pamphlet, j));
            picture.append(' ').append(x.quotedAgain(pamphlet, j)).append(']');
        }
        return picture.toString();
    }

    /** The longest ladder, the ladders and what is read. */
    static String ladders(PamphletQuarrel x, int pamphlet) {
        StringBuilder told = new StringBuilder();
        told.append(x.ladderOf(pamphlet)).append(' ').append(x.laddersOf(pamphlet)).append(':');
        int read = x.readingOf(pamphlet);
        for (int i = 0; i < read && i < 20; i++) {
            told.append(' ').append(x.readAt(pamphlet, i));
        }
        return told.toString();
    }
}
