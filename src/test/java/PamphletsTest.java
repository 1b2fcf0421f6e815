/** The bounds of the promises 7 to 16: day to whyNotPrinted. */
public final class PamphletsTest {
    private static final int LOWEST = Stand.LOWEST;
    private static final int HIGHEST = Stand.HIGHEST;

    private static final String NO_PAMPHLET =
            "Throws IndexOutOfBoundsException if there is no such pamphlet";
    private static final String NO_PAGE =
            "Throws IndexOutOfBoundsException if there is no such pamphlet or page";
    private static final String NO_LETTER = "Throws IndexOutOfBoundsException if there is no such"
            + " pamphlet or word, or index is below 0";
    private static final String NO_WORD =
            "Throws IndexOutOfBoundsException if there is no such pamphlet or word";
    private static final String BEHIND = "NONE behind the end of the word";
    private static final String SAME =
            "Tells whether a word of a pamphlet and one of another one are the same";
    private static final String REASON_1 = "Returns 1 if there are 20 pamphlets";
    private static final String REASON_2 = "otherwise 2 if the buffer is not a text";
    private static final String REASON_3 =
            "otherwise 3 if a source is not a pamphlet that there is";
    private static final String REASON_4 = "otherwise 4 if a source was printed on this day";
    private static final String WHY = "Tells why the buffer cannot be printed";

    private PamphletsTest() {
    }

    public static void main(String[] args) {
        Check.run(PamphletsTest.class);
    }

    // ---- promises 7 and 8: day and pamphlets

    @Says(promise = 7, value = "Returns the day")
    private static void theFirstDay() {
        Check.same("day", 0, new PamphletQuarrel().day());
    }

    @Says(promise = 7, value = "Returns the day")
    private static void laterDays() {
        PamphletQuarrel x = new PamphletQuarrel();
        x.pass(1);
        Check.same("day", 1, x.day());
        x.pass(100);
        Check.same("day", 101, x.day());
        x.undo();
        Check.same("undone", 1, x.day());
        Picture.print(x, 0, "a");
        x.withdraw();
        Check.same("the same day", 1, x.day());
    }

    @Says(promise = 7, value = "Returns the day")
    private static void theLastDayThatThereCanBe() {
        PamphletQuarrel x = new PamphletQuarrel();
        for (int i = 0; i < 511; i++) {
            x.pass(100);
        }
        Check.same("day", 51_100, x.day());
    }

    @Says(promise = 8, value = "Returns how many pamphlets there are")
    private static void noneToTwenty() {
        PamphletQuarrel x = new PamphletQuarrel();
        for (int i = 0; i < 20; i++) {
            Check.same("pamphlets", i, x.pamphlets());
            Picture.print(x, 0, "a");
        }
        Check.same("pamphlets", 20, x.pamphlets());
        for (int i = 19; i >= 0; i--) {
            x.withdraw();
            Check.same("pamphlets left", i, x.pamphlets());
        }
    }

    // ---- promises 9 and 10: authorOf and dayOf

    @Says(promise = 9, value = "Returns the author of a pamphlet")
    private static void theAuthors0To7() {
        PamphletQuarrel x = Stand.many(20);
        for (int i = 0; i < 20; i++) {
            Check.same("author", i % 8, x.authorOf(i));
        }
    }

    @Says(promise = 9, value = NO_PAMPHLET)
    private static void noPamphletWithAnAuthor() {
        Numbers.pamphlets((x, pamphlet) -> x.authorOf(pamphlet));
    }

    @Says(promise = 10, value = "Returns the day on which a pamphlet was printed")
    private static void theFirstAndLaterDays() {
        PamphletQuarrel x = new PamphletQuarrel();
        Picture.print(x, 0, "a");
        x.pass(1);
        Picture.print(x, 0, "a");
        Picture.print(x, 0, "a");
        x.pass(100);
        Picture.print(x, 0, "a");
        int[] days = {0, 1, 1, 101};
        for (int i = 0; i < days.length; i++) {
            Check.same("day of " + i, days[i], x.dayOf(i));
        }
    }

    @Says(promise = 10, value = NO_PAMPHLET)
    private static void noPamphletWithADay() {
        Numbers.pamphlets((x, pamphlet) -> x.dayOf(pamphlet));
    }

    // ---- promises 11 to 13: wordsOf, pagesOf and wordsOn

    @Says(promise = 11, value = "Returns how many words a pamphlet has")
    private static void oneWordAndFifty() {
        PamphletQuarrel x = Picture.daily("abcdefg", "\"a\"@0", Stand.times("a", 50),
                "\"" + Stand.times("a", 48) + "\"@2");
        Check.same("one word", 1, x.wordsOf(0));
        Check.same("one quoted word", 1, x.wordsOf(1));
        Check.same("the most words", 50, x.wordsOf(2));
        Check.same("the most quoted words", 48, x.wordsOf(3));
    }

    // The words of the pamphlet 1 become 60.
    private static PamphletQuarrel sixty() {
        PamphletQuarrel x = Picture.daily(Stand.SPACED,
                Stand.quoted(22, 0) + " " + Stand.quoted(10, 0) + " " + Stand.times("z", 14));
        x.mendAll();
        return x;
    }

    @Says(promise = 11, value = "Returns how many words a pamphlet has")
    private static void sixtyWords() {
        Check.same("words", 60, sixty().wordsOf(1));
    }

    @Says(promise = 11, value = NO_PAMPHLET)
    private static void noPamphletWithWords() {
        Numbers.pamphlets((x, pamphlet) -> x.wordsOf(pamphlet));
    }

    @Says(promise = 12, value = "Returns how many pages a pamphlet has")
    private static void pagesByWords() {
        int[][] due = {{1, 1}, {7, 1}, {8, 1}, {9, 2}, {16, 2}, {17, 3}, {24, 3}, {25, 4}, {48, 6},
            {49, 7}, {50, 7}};
        for (int[] pair : due) {
            Check.same("pages of " + pair[0] + " words", pair[1],
                    Picture.daily(Stand.times("a", pair[0])).pagesOf(0));
        }
    }

    @Says(promise = 12, value = "Returns how many pages a pamphlet has")
    private static void pagesOfSixtyWords() {
        Check.same("pages", 8, sixty().pagesOf(1));
    }

    @Says(promise = 12, value = NO_PAMPHLET)
    private static void noPamphletWithPages() {
        Numbers.pamphlets((x, pamphlet) -> x.pagesOf(pamphlet));
    }

    @Says(promise = 13, value = "Returns 1 to 8")
    private static void oneToEightWordsOnAPage() {
        for (int words = 1; words <= 8; words++) {
            PamphletQuarrel x = Picture.daily(Stand.times("a", words), Stand.times("a", 8 + words));
            Check.same("of " + words + " words", words, x.wordsOn(0, 0));
            Check.same("the first of " + (8 + words), 8, x.wordsOn(1, 0));
            Check.same("the second of " + (8 + words), words, x.wordsOn(1, 1));
        }
    }

    @Says(promise = 13, value = "Returns how many words are on a page of a pamphlet")
    private static void theLastPage() {
        PamphletQuarrel x = Picture.daily(Stand.times("a", 50));
        Check.same("the last but one of 50", 8, x.wordsOn(0, 5));
        Check.same("the last of 50", 2, x.wordsOn(0, 6));
        PamphletQuarrel y = sixty();
        Check.same("the last but one of 60", 8, y.wordsOn(1, 6));
        Check.same("the last of 60", 4, y.wordsOn(1, 7));
        Check.refuses("behind the last of 60", IndexOutOfBoundsException.class,
                () -> y.wordsOn(1, 8));
    }

    @Says(promise = 13, value = NO_PAGE)
    private static void noSuchPage() {
        Refused.index(() -> Picture.daily(Stand.letters(8), Stand.letters(9)),
                x -> x.wordsOn(0, -1), x -> x.wordsOn(0, 1), x -> x.wordsOn(0, 2),
                x -> x.wordsOn(1, -1), x -> x.wordsOn(1, 2), x -> x.wordsOn(1, 8),
                x -> x.wordsOn(1, LOWEST), x -> x.wordsOn(1, HIGHEST), x -> x.wordsOn(1, 1 << 29),
                x -> x.wordsOn(1, -(1 << 29)));
    }

    @Says(promise = 13, value = NO_PAGE)
    private static void noPamphletWithAPage() {
        Numbers.pamphlets((x, pamphlet) -> x.wordsOn(pamphlet, 0));
    }

    // ---- promises 14 and 15: letterOf and isSameWord

    @Says(promise = 14, value = "index: from 0")
    private static void theFirstLetter() {
        PamphletQuarrel x = Picture.daily("abcdefg z");
        Check.same("of seven", (int) 'a', x.letterOf(0, 0, 0));
        Check.same("of one", (int) 'z', x.letterOf(0, 1, 0));
    }

    @Says(promise = 14, value = "Returns a letter of a word of a pamphlet")
    private static void ofTheFirstAndTheLastPamphlet() {
        PamphletQuarrel x = Stand.many(20);
        Check.same("the first", (int) 'a', x.letterOf(0, 0, 0));
        Check.same("the last", (int) 't', x.letterOf(19, 0, 0));
    }

    @Says(promise = 14, value = "Returns its code")
    private static void eachLetterAtEachPlace() {
        PamphletQuarrel x = Picture.daily("abcdefg hijklmn opqrstu vwxyz", "\"z zzzzzzz\"@0 a");
        for (int i = 0; i < 26; i++) {
            Check.same("letter", 'a' + i, x.letterOf(0, i / 7, i % 7));
        }
        Check.same("the last letter of a quotation", (int) 'z', x.letterOf(1, 1, 6));
        Check.same("the last word", (int) 'a', x.letterOf(1, 2, 0));
    }

    @Says(promise = 14, value = BEHIND)
    private static void behindEachLength() {
        PamphletQuarrel x = Picture.daily("a ab abc abcd abcde abcdef abcdefg");
        for (int word = 0; word < 7; word++) {
            Check.same("the last letter", 'a' + word, x.letterOf(0, word, word));
            Check.same("one behind it", -1, x.letterOf(0, word, word + 1));
            Check.same("two behind it", -1, x.letterOf(0, word, word + 2));
        }
    }

    @Says(promise = 14, value = BEHIND)
    private static void farBehind() {
        PamphletQuarrel x = Picture.daily("abcdefg z");
        for (int index : new int[] {7, 8, 12, 13, 31, 32, 64, 1000, HIGHEST - 1, HIGHEST}) {
            Check.same("behind seven, " + index, -1, x.letterOf(0, 0, index));
            Check.same("behind one, " + index, -1, x.letterOf(0, 1, index));
        }
    }

    @Says(promise = 14, value = NO_LETTER)
    private static void theIndexIsBelow0() {
        Refused.index(Stand::rich, x -> x.letterOf(0, 0, -1), x -> x.letterOf(2, 2, -1),
                x -> x.letterOf(0, 0, LOWEST), x -> x.letterOf(0, 0, -7));
    }

    @Says(promise = 14, value = NO_LETTER)
    private static void noSuchWord() {
        Refused.index(Stand::rich, x -> x.letterOf(0, -1, 0), x -> x.letterOf(0, 3, 0),
                x -> x.letterOf(2, 3, 0), x -> x.letterOf(0, 60, 0), x -> x.letterOf(0, LOWEST, 0),
                x -> x.letterOf(0, HIGHEST, 0), x -> x.letterOf(0, 3, -1),
                x -> x.letterOf(0, 3, 7));
    }

    @Says(promise = 14, value = NO_LETTER)
    private static void theLastWordThatThereCanBe() {
        PamphletQuarrel x = sixty();
        Check.same("the word 59", (int) 'z', x.letterOf(1, 59, 0));
        Check.refuses("the word 60", IndexOutOfBoundsException.class, () -> x.letterOf(1, 60, 0));
    }

    @Says(promise = 14, value = NO_LETTER)
    private static void noPamphletWithALetter() {
        Numbers.pamphlets((x, pamphlet) -> x.letterOf(pamphlet, 0, 0));
        Refused.index(Stand::rich, x -> x.letterOf(3, 0, -1), x -> x.letterOf(-1, -1, -1));
    }

    @Says(promise = 15, value = SAME)
    private static void theSameWordOfOneAndSevenLetters() {
        PamphletQuarrel x = Picture.daily("a abcdefg a", "\"abcdefg\"@0 a");
        Check.same("itself", true, x.isSameWord(0, 0, 0, 0));
        Check.same("another one of the same", true, x.isSameWord(0, 0, 0, 2));
        Check.same("one letter", true, x.isSameWord(0, 2, 1, 1));
        Check.same("seven letters", true, x.isSameWord(1, 0, 0, 1));
    }

    @Says(promise = 15, value = SAME)
    private static void wordsThatDifferInOneLetter() {
        PamphletQuarrel x = Picture.daily("abcdefg bbcdefg abcdefh abcdef bcdefg",
                "abcdefg abddefg");
        for (int other = 1; other <= 4; other++) {
            Check.same("the word " + other, false, x.isSameWord(0, 0, 0, other));
            Check.same("the word " + other + " first", false, x.isSameWord(0, other, 1, 0));
        }
        Check.same("between", false, x.isSameWord(0, 0, 1, 1));
        Check.same("the same", true, x.isSameWord(0, 0, 1, 0));
    }

    @Says(promise = 15, value = NO_WORD)
    private static void noSuchWordOfTheOne() {
        Refused.index(Stand::rich, x -> x.isSameWord(0, -1, 1, 0), x -> x.isSameWord(0, 3, 1, 0),
                x -> x.isSameWord(2, 3, 1, 0), x -> x.isSameWord(0, LOWEST, 1, 0),
                x -> x.isSameWord(0, HIGHEST, 1, 0));
    }

    @Says(promise = 15, value = NO_WORD)
    private static void noSuchWordOfTheOther() {
        Refused.index(Stand::rich, x -> x.isSameWord(1, 0, 0, -1), x -> x.isSameWord(1, 0, 0, 3),
                x -> x.isSameWord(1, 0, 2, 3), x -> x.isSameWord(1, 0, 0, LOWEST),
                x -> x.isSameWord(1, 0, 0, HIGHEST));
    }

    // A word that only the other pamphlet has is none of this one.
    @Says(promise = 15, value = NO_WORD)
    private static void wordsOfEachOneByItself() {
        Refused.index(() -> Picture.daily("a b", "a"), x -> x.isSameWord(1, 1, 0, 0),
                x -> x.isSameWord(0, 0, 1, 1));
        Check.same("the other way", false, Picture.daily("a b", "a").isSameWord(0, 1, 1, 0));
    }

    @Says(promise = 15, value = NO_WORD)
    private static void noPamphletWithTheOneWord() {
        Numbers.pamphlets((x, pamphlet) -> x.isSameWord(pamphlet, 0, 0, 0));
    }

    @Says(promise = 15, value = NO_WORD)
    private static void noPamphletWithTheOtherWord() {
        Numbers.pamphlets((x, pamphlet) -> x.isSameWord(0, 0, pamphlet, 0));
    }

    // ---- promise 16: whyNotPrinted

    private static void why(int due, PamphletQuarrel x, String text) {
        x.clearText();
        Picture.type(x, text);
        Check.same("why not: " + text, due, x.whyNotPrinted());
        Check.same("characters then: " + text, text.length(), x.clearText());
    }

    @Says(promise = 16, value = WHY)
    private static void changesNothing() {
        PamphletQuarrel x = Stand.rich();
        String before = Picture.whole(x);
        Check.same("why not", 0, x.whyNotPrinted());
        Check.same("then", before, Picture.whole(x));
        Check.same("the buffer is printed", 3, x.print(0));
        Check.same("its words", "e f", Picture.words(x, 3));
    }

    @Says(promise = 16, value = REASON_1)
    private static void nineteenAndTwentyPamphlets() {
        PamphletQuarrel x = Stand.many(19);
        Check.same("nineteen", 0, x.whyNotPrinted());
        x.print(0);
        why(1, x, "a");
        x.withdraw();
        why(0, x, "a");
        x.undo();
        why(1, x, "a");
    }

    @Says(promise = 16, value = REASON_1)
    private static void twentyBeforeAllOtherReasons() {
        PamphletQuarrel x = Stand.many(20);
        why(1, x, "");
        why(1, x, "A");
        why(1, x, "\"a\"@");
        why(1, x, "\"a\"@19");
        why(1, x, "\"a\"@0");
    }

    @Says(promise = 16, value = REASON_2)
    private static void emptyAndFull() {
        PamphletQuarrel x = new PamphletQuarrel();
        Check.same("empty", 2, x.whyNotPrinted());
        why(0, x, "a");
        why(0, x, Stand.times("abcdefg", 12) + " wxyz");
        why(2, x, Stand.times("a", 50) + " ");
        why(2, x, Stand.times("a", 50) + "A");
    }

    @Says(promise = 16, value = REASON_2)
    private static void notYetATextAndNoMoreOne() {
        PamphletQuarrel x = Picture.daily("a");
        String[] texts = {"a ", "\"", "\"a", "\"a ", "\"a\"", "\"a\"@", "\"a\"@0 ", "a \"",
            "A", "a  b", "\"\"@0", "\"a\"@00", "\"a\"@20", "abcdefgh", "a\"a\"@0", "\"a\"@0a"};
        for (String text : texts) {
            why(2, x, text);
        }
    }

    @Says(promise = 16, value = REASON_2)
    private static void noTextBeforeTheSources() {
        PamphletQuarrel x = Stand.many(2);
        why(2, x, "\"a\"@19 ");
        why(2, x, "\"a\"@2 A");
        why(2, x, "\"a\"@0 ");
        why(2, x, "\"a\"@1 \"b");
    }

    @Says(promise = 16, value = REASON_3)
    private static void theLastPamphletAndTheNextNumber() {
        PamphletQuarrel x = Picture.daily("a", "b");
        why(0, x, "\"a\"@0");
        why(0, x, "\"a\"@1");
        why(3, x, "\"a\"@2");
        why(3, x, "\"a\"@10");
        why(3, x, "\"a\"@19");
    }

    @Says(promise = 16, value = REASON_3)
    private static void noPamphletsAtAll() {
        PamphletQuarrel x = new PamphletQuarrel();
        why(3, x, "\"a\"@0");
        why(3, x, "\"a\"@19");
        why(0, x, "a");
    }

    @Says(promise = 16, value = REASON_3)
    private static void nineteenPamphlets() {
        PamphletQuarrel x = Stand.many(19);
        x.pass(1);
        why(0, x, "\"a\"@18");
        why(3, x, "\"a\"@19");
    }

    @Says(promise = 16, value = REASON_3)
    private static void oneOfSeveralSourcesIsNot() {
        PamphletQuarrel x = Picture.daily("a", "b");
        why(3, x, "\"a\"@2 \"a\"@0 \"a\"@1");
        why(3, x, "\"a\"@0 \"a\"@2 \"a\"@1");
        why(3, x, "\"a\"@0 \"a\"@1 \"a\"@2");
        why(3, x, Stand.times("\"a\"@0", 15) + " \"a\"@2");
    }

    @Says(promise = 16, value = REASON_3)
    private static void noSuchSourceBeforeOneOfThisDay() {
        PamphletQuarrel x = Stand.many(2);
        why(3, x, "\"a\"@0 \"a\"@2");
        why(3, x, "\"a\"@2 \"a\"@0");
        why(4, x, "\"a\"@0 \"a\"@1");
    }

    @Says(promise = 16, value = REASON_3)
    private static void aWithdrawnSource() {
        PamphletQuarrel x = Stand.many(2);
        why(4, x, "\"a\"@1");
        x.withdraw();
        why(3, x, "\"a\"@1");
        x.pass(1);
        why(3, x, "\"a\"@1");
        why(0, x, "\"a\"@0");
    }

    @Says(promise = 16, value = REASON_4)
    private static void thisDayAndTheDayBefore() {
        PamphletQuarrel x = Picture.daily("a");
        Picture.print(x, 0, "b");
        why(0, x, "\"a\"@0");
        why(4, x, "\"a\"@1");
        x.pass(1);
        why(0, x, "\"a\"@1");
        x.undo();
        why(4, x, "\"a\"@1");
    }

    @Says(promise = 16, value = REASON_4)
    private static void theFirstDay0() {
        PamphletQuarrel x = Stand.many(1);
        why(4, x, "\"a\"@0");
        x.pass(100);
        why(0, x, "\"a\"@0");
    }

    @Says(promise = 16, value = REASON_4)
    private static void oneOfSeveralSourcesIsOfThisDay() {
        PamphletQuarrel x = Picture.daily("a", "b");
        Picture.print(x, 0, "c");
        why(4, x, "\"a\"@2 \"a\"@0 \"a\"@1");
        why(4, x, "\"a\"@0 \"a\"@2 \"a\"@1");
        why(4, x, "\"a\"@0 \"a\"@1 \"a\"@2");
        why(4, x, Stand.times("\"a\"@0", 15) + " \"a\"@2");
        why(0, x, Stand.times("\"a\"@0", 15) + " \"a\"@1");
    }

    @Says(promise = 16, value = "otherwise 0")
    private static void noReason() {
        PamphletQuarrel x = Picture.daily("a");
        why(0, x, "a");
        why(0, x, "\"a\"@0");
        why(0, x, Stand.times("\"a\"@0", 16) + " abcd");
    }
}
