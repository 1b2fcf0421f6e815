/** The bounds that the document's terms name: what a text is, and where a buffer has its error. */
public final class TextsTest {
    private static final String ROW = "A text is a row of items with one blank between two of them";
    private static final String LENGTH = "1 to 100 characters together";
    private static final String WORD = "An item is a word, 1 to 7 letters a to z, or a quotation";
    private static final String QUOTATION = "a double quote (the character 34), one or more words"
            + " with one blank between two of them, a double quote";
    private static final String SOURCE = "the number of a pamphlet, 0 to 19, without leading zeros";
    private static final String FIRST_ERROR = "the index of the first character with which no text"
            + " of any length can begin, together with the characters before it";
    private static final String NO_ERROR = "if there is none, it is the length of the buffer";
    private static final String BEYOND = "A blank, a double quote, a letter or a digit beyond what"
            + " an item can have is an error where it stands";

    private TextsTest() {
    }

    public static void main(String[] args) {
        Check.run(TextsTest.class);
    }

    private static PamphletQuarrel typed(String text) {
        return Picture.type(new PamphletQuarrel(), text);
    }

    /** A text whose sources are not there yet, so that it is a text and no more. */
    private static void text(String text) {
        PamphletQuarrel x = typed(text);
        Check.same("error position of: " + text, text.length(), x.errorPosition());
        Check.same("why not, of: " + text, text.indexOf('"') < 0 ? 0 : 3, x.whyNotPrinted());
        Check.same("length of: " + text, text.length(), x.clearText());
    }

    /** The beginning of a text, but no text yet. */
    private static void beginning(String text) {
        PamphletQuarrel x = typed(text);
        Check.same("error position of: " + text, text.length(), x.errorPosition());
        Check.same("why not, of: " + text, 2, x.whyNotPrinted());
        Check.same("length of: " + text, text.length(), x.clearText());
    }

    /** An error at the last character. */
    private static void error(String text) {
        errorAt(text.length() - 1, text);
    }

    private static void errorAt(int due, String text) {
        PamphletQuarrel x = typed(text);
        Check.same("error position of: " + text, due, x.errorPosition());
        Check.same("why not, of: " + text, 2, x.whyNotPrinted());
        Check.same("length of: " + text, text.length(), x.clearText());
    }

    // ---- items and blanks

    @Says(promise = 0, value = ROW)
    private static void noItem() {
        beginning("");
    }

    @Says(promise = 0, value = ROW)
    private static void oneItem() {
        text("a");
        text("\"a\"@0");
    }

    @Says(promise = 0, value = ROW)
    private static void twoItems() {
        text("a b");
        text("a \"a\"@0");
        text("\"a\"@0 a");
        text("\"a\"@0 \"a\"@0");
    }

    @Says(promise = 0, value = ROW)
    private static void noBlankBetweenItems() {
        error("a\"");
        error("\"a\"@0\"");
        error("\"a\"@0a");
        error("\"a\"@19\"");
        error("\"a\"@19a");
    }

    @Says(promise = 0, value = ROW)
    private static void twoBlanksBetweenItems() {
        error("a  ");
        error("\"a\"@0  ");
        errorAt(2, "a  b");
        errorAt(6, "\"a\"@0  \"a\"@0");
    }

    @Says(promise = 0, value = ROW)
    private static void blankBeforeTheFirstItem() {
        error(" ");
        errorAt(0, " a");
        errorAt(0, " \"a\"@0");
    }

    @Says(promise = 0, value = ROW)
    private static void blankBehindTheLastItem() {
        beginning("a ");
        beginning("\"a\"@0 ");
        beginning("\"a\"@19 ");
    }

    @Says(promise = 0, value = ROW)
    private static void mostItems() {
        text(Stand.times("a", 50));
        text(Stand.times("\"a\"@0", 16));
        text(Stand.times("\"a\"@0", 16) + " abcd");
    }

    // ---- characters together

    @Says(promise = 0, value = LENGTH)
    private static void noCharacter() {
        PamphletQuarrel x = new PamphletQuarrel();
        Check.same("why not", 2, x.whyNotPrinted());
        Refused.state(PamphletQuarrel::new, y -> y.print(0));
    }

    @Says(promise = 0, value = LENGTH)
    private static void oneCharacter() {
        PamphletQuarrel x = new PamphletQuarrel();
        Check.same("printed", 0, Picture.print(x, 0, "q"));
        Check.same("its words", "q", Picture.words(x, 0));
    }

    @Says(promise = 0, value = LENGTH)
    private static void ninetyNineCharacters() {
        PamphletQuarrel x = new PamphletQuarrel();
        Check.same("printed", 0, Picture.print(x, 0, Stand.times("a", 50)));
        Check.same("its words", 50, x.wordsOf(0));
        Check.same("the last word", "a", Picture.word(x, 0, 49));
    }

    @Says(promise = 0, value = LENGTH)
    private static void hundredCharacters() {
        String text = Stand.times("abcdefg", 12) + " wxyz";
        Check.same("characters", 100, text.length());
        PamphletQuarrel x = typed(text);
        Check.same("why not", 0, x.whyNotPrinted());
        Check.same("printed", 0, x.print(0));
        Check.same("its words", text, Picture.words(x, 0));
    }

    @Says(promise = 0, value = LENGTH)
    private static void hundredCharactersWithTheLastSource() {
        String text = "b" + Stand.times("a", 46) + " \"ab\"@18";
        Check.same("characters", 100, text.length());
        PamphletQuarrel x = Stand.many(19);
        x.clearText();
        x.pass(1);
        Check.same("printed", 19, Picture.print(x, 0, text));
        Check.same("its words", 47, x.wordsOf(19));
        Check.same("the first word", "ba", Picture.word(x, 19, 0));
        Check.same("the last word", "ab", Picture.word(x, 19, 46));
        Check.same("the last source", 18, x.sourceOf(19, 0));
    }

    @Says(promise = 0, value = LENGTH)
    private static void hundredAndFirstCharacter() {
        Refused.state(() -> typed(Stand.times("abcdefg", 12) + " wxyz"), x -> x.append('a'));
    }

    // ---- words

    @Says(promise = 0, value = WORD)
    private static void noLetter() {
        error(" ");
        error("a  ");
        error("\"\"");
        error("\" ");
        error("\"a \"");
    }

    @Says(promise = 0, value = WORD)
    private static void oneLetter() {
        text("a");
        text("a b");
        text("\"a\"@0");
        text("\"a b\"@0");
    }

    @Says(promise = 0, value = WORD)
    private static void sevenLetters() {
        text("abcdefg");
        text("a abcdefg");
        text("abcdefg abcdefg");
        text("\"abcdefg\"@0");
        text("\"a abcdefg\"@0 abcdefg");
        PamphletQuarrel x = typed("zyxwvut");
        x.print(0);
        Check.same("all seven", "zyxwvut", Picture.words(x, 0));
    }

    @Says(promise = 0, value = WORD)
    private static void eightLetters() {
        error("abcdefgh");
        error("a abcdefgh");
        error("abcdefg abcdefgh");
        error("\"abcdefgh");
        error("\"a abcdefgh");
        error("\"abcdefg\"@0 abcdefgh");
        errorAt(7, "abcdefghi j");
    }

    @Says(promise = 0, value = WORD)
    private static void eachLetter() {
        for (char letter = 'a'; letter <= 'z'; letter++) {
            text("" + letter);
            text("a" + letter);
            text("\"" + letter + "\"@0");
        }
    }

    // The codes 32 to 126 without the letters.
    private static String otherSigns() {
        StringBuilder signs = new StringBuilder();
        for (char sign = 32; sign <= 126; sign++) {
            if (sign < 'a' || sign > 'z') {
                signs.append(sign);
            }
        }
        return signs.toString();
    }

    @Says(promise = 0, value = WORD)
    private static void noOtherSignBegins() {
        for (char sign : otherSigns().toCharArray()) {
            if (sign != '"') {
                error("" + sign);
                error("a " + sign);
                error("\"a\"@0 " + sign);
            }
        }
    }

    @Says(promise = 0, value = WORD)
    private static void noOtherSignInAWord() {
        for (char sign : otherSigns().toCharArray()) {
            if (sign != ' ') {
                error("a" + sign);
                error("abcdefg" + sign);
            }
        }
    }

    // ---- quotations

    @Says(promise = 0, value = QUOTATION)
    private static void onlyThe34Opens() {
        beginning("\"");
        error("!");
        error("#");
        error("'");
    }

    @Says(promise = 0, value = QUOTATION)
    private static void noWordIsQuoted() {
        error("\"\"");
        error("\" ");
        errorAt(1, "\"\"@0");
        errorAt(1, "\" a\"@0");
    }

    @Says(promise = 0, value = QUOTATION)
    private static void oneWordIsQuoted() {
        text("\"a\"@0");
        text("\"abcdefg\"@0");
    }

    @Says(promise = 0, value = QUOTATION)
    private static void mostWordsAreQuoted() {
        String text = "\"" + Stand.times("a", 48) + "\"@0";
        Check.same("characters", 99, text.length());
        text(text);
        text("\"" + Stand.times("a", 47) + " aa\"@0");
        text("\"" + Stand.times("a", 48) + "\"@19");
    }

    @Says(promise = 0, value = QUOTATION)
    private static void blanksBetweenQuotedWords() {
        text("\"a b\"@0");
        beginning("\"a ");
        error("\"a  ");
        error("\"a \"");
        errorAt(3, "\"a  b\"@0");
        errorAt(3, "\"a \"@0");
    }

    @Says(promise = 0, value = QUOTATION)
    private static void noOtherSignBeginsAQuotedWord() {
        for (char sign : otherSigns().toCharArray()) {
            error("\"" + sign);
            error("\"a " + sign);
        }
    }

    @Says(promise = 0, value = QUOTATION)
    private static void noOtherSignInAQuotedWord() {
        for (char sign : otherSigns().toCharArray()) {
            if (sign != ' ' && sign != '"') {
                error("\"a" + sign);
                error("\"abcdefg" + sign);
            }
        }
    }

    @Says(promise = 0, value = QUOTATION)
    private static void theQuoteIsNotClosed() {
        beginning("\"a");
        beginning("\"abcdefg");
        beginning("a \"a b");
    }

    @Says(promise = 0, value = "a double quote, \"@\", and the number")
    private static void onlyTheAtSignFollows() {
        beginning("\"a\"");
        beginning("\"a\"@");
        for (char sign = 32; sign <= 126; sign++) {
            if (sign != '@') {
                error("\"a\"" + sign);
            }
        }
        errorAt(4, "\"a\"@@0");
    }

    // ---- the number of the source

    @Says(promise = 0, value = SOURCE)
    private static void eachNumber() {
        for (int number = 0; number <= 19; number++) {
            text("\"a\"@" + number);
            text("\"a\"@" + number + " b");
        }
    }

    @Says(promise = 0, value = SOURCE)
    private static void noNumber() {
        beginning("\"a\"@");
        error("\"a\"@ ");
        error("\"a\"@-");
    }

    @Says(promise = 0, value = SOURCE)
    private static void onlyDigits() {
        for (char sign = 32; sign <= 126; sign++) {
            if (sign < '0' || sign > '9') {
                error("\"a\"@" + sign);
            }
            if ((sign < '0' || sign > '9') && sign != ' ') {
                error("\"a\"@0" + sign);
                error("\"a\"@1" + sign);
                error("\"a\"@2" + sign);
                error("\"a\"@19" + sign);
            }
        }
    }

    @Says(promise = 0, value = SOURCE)
    private static void nineteenAndTwenty() {
        text("\"a\"@19");
        error("\"a\"@20");
        error("\"a\"@21");
        error("\"a\"@29");
        for (int tens = 2; tens <= 9; tens++) {
            text("\"a\"@" + tens);
            error("\"a\"@" + tens + "0");
            error("\"a\"@" + tens + "9");
        }
    }

    @Says(promise = 0, value = SOURCE)
    private static void leadingZeros() {
        text("\"a\"@0");
        for (int number = 0; number <= 9; number++) {
            error("\"a\"@0" + number);
        }
        errorAt(5, "\"a\"@019");
    }

    @Says(promise = 0, value = SOURCE)
    private static void threeDigits() {
        for (int number = 0; number <= 9; number++) {
            error("\"a\"@10" + number);
            error("\"a\"@1" + number + "0");
            error("\"a\"@19" + number);
        }
    }

    @Says(promise = 0, value = SOURCE)
    private static void eachNumberIsTheSource() {
        PamphletQuarrel x = Stand.many(19);
        x.clearText();
        x.pass(1);
        for (int number = 0; number <= 18; number++) {
            Picture.print(x, 0, "\"a\"@" + number);
            Check.same("source", number, x.sourceOf(19, 0));
            x.undo();
        }
    }

    // ---- the error position

    @Says(promise = 0, value = FIRST_ERROR)
    private static void errorAtTheFirstCharacter() {
        errorAt(0, "A");
        errorAt(0, " ");
        errorAt(0, "@0");
        errorAt(0, "1 a");
    }

    @Says(promise = 0, value = FIRST_ERROR)
    private static void theFirstOfSeveralErrors() {
        errorAt(1, "a!b! c");
        errorAt(2, "a  b  c");
        errorAt(5, "\"a\"@09 ");
        errorAt(7, "abcdefghijklmnop");
    }

    @Says(promise = 0, value = FIRST_ERROR)
    private static void errorAtTheHundredthCharacter() {
        String most = Stand.times("a", 50);
        Check.same("characters", 99, most.length());
        error(most + "!");
        error(most + "\"");
        error("a" + Stand.times("a", 49) + "  ");
        error(Stand.times("abcdefg", 12) + " xyz0");
    }

    @Says(promise = 0, value = NO_ERROR)
    private static void nothingInTheBuffer() {
        Check.same("error position", 0, new PamphletQuarrel().errorPosition());
    }

    @Says(promise = 0, value = NO_ERROR)
    private static void oneCharacterWithoutError() {
        Check.same("a letter", 1, typed("a").errorPosition());
        Check.same("a quote", 1, typed("\"").errorPosition());
    }

    @Says(promise = 0, value = NO_ERROR)
    private static void hundredCharactersWithoutError() {
        Check.same("a text", 100, typed(Stand.times("abcdefg", 12) + " wxyz").errorPosition());
    }

    // A longer text could begin so, though the buffer takes no more.
    @Says(promise = 0, value = FIRST_ERROR)
    private static void textsOfAnyLength() {
        String[] full = {Stand.times("a", 50) + " ", "a" + Stand.times("a", 49) + " \"",
            Stand.times("a", 49) + " \"a", "a" + Stand.times("a", 48) + " \"a\"",
            Stand.times("a", 48) + " \"a\"@", Stand.times("a", 49) + " \"a"};
        for (String text : full) {
            Check.same("characters", 100, text.length());
            beginning(text);
        }
    }

    // ---- what goes beyond an item

    @Says(promise = 0, value = BEYOND)
    private static void blankBeyond() {
        error(" ");
        error("a  ");
        error("\" ");
        error("\"a  ");
        error("\"a\" ");
        error("\"a\"@ ");
        error("\"a\"@0  ");
    }

    @Says(promise = 0, value = BEYOND)
    private static void quoteBeyond() {
        error("a\"");
        error("abcdefg\"");
        error("\"\"");
        error("\"a \"");
        error("\"a\"\"");
        error("\"a\"@\"");
        error("\"a\"@0\"");
        error("\"a\"@1\"");
        error("\"a\"@19\"");
    }

    @Says(promise = 0, value = BEYOND)
    private static void letterBeyond() {
        error("abcdefgh");
        error("\"abcdefgh");
        error("\"a\"a");
        error("\"a\"@a");
        error("\"a\"@0a");
        error("\"a\"@1a");
        error("\"a\"@19a");
    }

    @Says(promise = 0, value = BEYOND)
    private static void digitBeyond() {
        error("0");
        error("a0");
        error("a 0");
        error("\"0");
        error("\"a0");
        error("\"a 0");
        error("\"a\"0");
        error("\"a\"@00");
        error("\"a\"@20");
        error("\"a\"@90");
        error("\"a\"@100");
        error("\"a\"@190");
        error("\"a\"@0 0");
    }

    // ---- the numbers of words, quotations and pages

    @Says(promise = 0, value = "The words of a pamphlet are all its words in their order, those of"
            + " quotations included, numbered from 0")
    private static void wordsAreNumberedFromNought() {
        PamphletQuarrel x = Picture.daily("a", "\"b c\"@0 d \"e\"@0");
        Check.same("the first", (int) 'b', x.letterOf(1, 0, 0));
        Check.same("the second", (int) 'c', x.letterOf(1, 1, 0));
        Check.same("behind a quotation", (int) 'd', x.letterOf(1, 2, 0));
        Check.same("the last", (int) 'e', x.letterOf(1, 3, 0));
        Refused.index(() -> Picture.daily("a", "\"b c\"@0 d \"e\"@0"),
                y -> y.letterOf(1, -1, 0), y -> y.letterOf(1, 4, 0));
    }

    @Says(promise = 0, value = "its quotations are numbered from 0 in their order")
    private static void quotationsAreNumberedFromNought() {
        PamphletQuarrel x = Picture.daily("a", "b", "\"b\"@1 b \"a a\"@0 \"b\"@1");
        Check.same("the first", "@1 0+1", Picture.quotation(x, 2, 0));
        Check.same("the second", "@0 2+2", Picture.quotation(x, 2, 1));
        Check.same("the last", "@1 4+1", Picture.quotation(x, 2, 2));
        Refused.index(() -> Picture.daily("a", "b", "\"b\"@1 b \"a a\"@0 \"b\"@1"),
                y -> y.sourceOf(2, -1), y -> y.sourceOf(2, 3));
    }

    @Says(promise = 0, value = "A page has 8 words")
    private static void sevenEightAndNineWords() {
        PamphletQuarrel x = Picture.daily(Stand.letters(7), Stand.letters(8), Stand.letters(9));
        Check.same("pages of 7", 1, x.pagesOf(0));
        Check.same("words on it", 7, x.wordsOn(0, 0));
        Check.same("pages of 8", 1, x.pagesOf(1));
        Check.same("words on it", 8, x.wordsOn(1, 0));
        Check.same("pages of 9", 2, x.pagesOf(2));
        Check.same("words on the first", 8, x.wordsOn(2, 0));
        Check.same("words on the second", 1, x.wordsOn(2, 1));
    }

    @Says(promise = 0, value = "the word w is on the page w / 8, rounded down")
    private static void wordsOnEitherSideOfAPage() {
        PamphletQuarrel x = Picture.daily(Stand.letters(26),
                "\"a\"@0 \"h\"@0 \"i\"@0 \"p\"@0 \"q\"@0 \"x\"@0 \"y\"@0 \"z\"@0");
        int[] pages = {0, 0, 1, 1, 2, 2, 3, 3};
        for (int i = 0; i < pages.length; i++) {
            Check.same("the page of the quotation " + i, pages[i], x.pageOf(1, i));
        }
    }
}
