/** The bounds of the promises 1 to 6: the new object, print, pass, mend, mendAll and withdraw. */
public final class ChangesTest {
    private static final int LOWEST = Stand.LOWEST;
    private static final int HIGHEST = Stand.HIGHEST;

    private static final String NEW = "There are no pamphlets on the day 0";
    private static final String PRINTS =
            "Prints a pamphlet whose text is the buffer, and empties the buffer";
    private static final String PRINT_UNDO = "Undoable (the buffer stays empty then)";
    private static final String PRINT_AUTHOR = "author: 0 to 7";
    private static final String PRINT_ARGUMENT =
            "Throws IllegalArgumentException if author is out of range";
    private static final String PRINT_STATE =
            "Throws IllegalStateException if whyNotPrinted() is above 0";
    private static final String DAYS = "days: 1 to 100";
    private static final String MEND_INDEX =
            "Throws IndexOutOfBoundsException if there is no such pamphlet or quotation";
    private static final String MEND_STATE = "Throws IllegalStateException if it is faithful,"
            + " or the pamphlet would have more than 60 words";
    private static final String MEND_ALL = "Mends all quotations that can be mended, pamphlet by"
            + " pamphlet, quotation by quotation, each as its turn comes";
    private static final String MEND_ALL_UNDO = "Undoable as one call, also if none is mended";
    private static final String WITHDRAW_STATE =
            "Throws IllegalStateException if there are none, or it was not printed on this day";

    private ChangesTest() {
    }

    public static void main(String[] args) {
        Check.run(ChangesTest.class);
    }

    // ---- promise 1: a new object

    @Says(promise = 1, value = NEW)
    private static void noPamphlets() {
        Check.same("pamphlets", 0, new PamphletQuarrel().pamphlets());
        Refused.index(PamphletQuarrel::new, x -> x.authorOf(0), x -> x.wordsOf(0));
    }

    @Says(promise = 1, value = NEW)
    private static void theDay0() {
        Check.same("day", 0, new PamphletQuarrel().day());
    }

    @Says(promise = 1, value = NEW)
    private static void nothingElseEither() {
        PamphletQuarrel x = new PamphletQuarrel();
        Check.same("saved states", 0, x.savedStates());
        Check.same("words of the glossary", 0, x.glossary());
        Check.same("characters", 0, x.clearText());
        Refused.state(PamphletQuarrel::new, y -> y.undo(), y -> y.restoreSnapshot(),
                y -> y.withdraw());
    }

    @Says(promise = 1, value = NEW)
    private static void eachObjectIsNew() {
        String before = Picture.whole(new PamphletQuarrel());
        PamphletQuarrel x = Stand.rich();
        Check.same("beside another one", before, Picture.whole(new PamphletQuarrel()));
        Check.same("the other one", 3, x.pamphlets());
    }

    // ---- promise 2: print

    @Says(promise = 2, value = PRINTS)
    private static void printsOneCharacter() {
        PamphletQuarrel x = new PamphletQuarrel();
        Picture.print(x, 0, "x");
        Check.same("its words", "x", Picture.words(x, 0));
        Check.same("its quotations", 0, x.quotationsOf(0));
    }

    @Says(promise = 2, value = PRINTS)
    private static void printsAFullBuffer() {
        PamphletQuarrel x = Picture.daily("a b");
        String text = Stand.times("ab", 31) + " \"a b\"@0";
        Check.same("characters", 100, text.length());
        Picture.print(x, 0, text);
        Check.same("its words", 33, x.wordsOf(1));
        Check.same("its last word", "b", Picture.word(x, 1, 32));
        Check.same("its quotation", "@0 31+2", Picture.quotation(x, 1, 0));
    }

    @Says(promise = 2, value = PRINTS)
    private static void printsAQuotationAlone() {
        PamphletQuarrel x = Picture.daily("a", "\"b\"@0");
        Check.same("its words", "b", Picture.words(x, 1));
        Check.same("its quotation", "@0 0+1", Picture.quotation(x, 1, 0));
    }

    @Says(promise = 2, value = PRINTS)
    private static void emptiesTheBuffer() {
        PamphletQuarrel x = new PamphletQuarrel();
        Picture.print(x, 0, Stand.times("abcdefg", 12) + " wxyz");
        Check.same("error position", 0, x.errorPosition());
        Check.same("why not", 2, x.whyNotPrinted());
        Check.same("the first character again", 1, x.append('b'));
        x.print(0);
        Check.same("nothing else", "b", Picture.words(x, 1));
        Check.same("characters", 0, x.clearText());
    }

    @Says(promise = 2, value = PRINT_UNDO)
    private static void printIsUndone() {
        PamphletQuarrel x = new PamphletQuarrel();
        Picture.print(x, 3, "a");
        Check.same("saved", 1, x.savedStates());
        Check.same("left", 0, x.undo());
        Check.same("pamphlets", 0, x.pamphlets());
        Check.same("characters", 0, x.clearText());
    }

    @Says(promise = 2, value = PRINT_UNDO)
    private static void printIsUndoneAmongFive() {
        PamphletQuarrel x = Stand.rich();
        x.clearText();
        String before = Picture.whole(x).replace("saved 5", "saved 4");
        Picture.print(x, 0, "e");
        Check.same("saved", 5, x.savedStates());
        Check.same("left", 4, x.undo());
        Check.same("undone", before, Picture.whole(x));
    }

    @Says(promise = 2, value = PRINT_AUTHOR)
    private static void theAuthors0And7() {
        PamphletQuarrel x = new PamphletQuarrel();
        Picture.print(x, 0, "a");
        Picture.print(x, 7, "b");
        Check.same("the lowest", 0, x.authorOf(0));
        Check.same("the highest", 7, x.authorOf(1));
    }

    @Says(promise = 2, value = "Returns its number")
    private static void theNumbers0And19() {
        PamphletQuarrel x = new PamphletQuarrel();
        Check.same("the first", 0, Picture.print(x, 0, "a"));
        Check.same("the twentieth", 19, Stand.many(19).print(0));
    }

    @Says(promise = 2, value = "Returns its number")
    private static void theNumberOfAWithdrawnOne() {
        PamphletQuarrel x = Picture.daily("a");
        Check.same("the second", 1, Picture.print(x, 0, "b"));
        x.withdraw();
        Check.same("the second again", 1, Picture.print(x, 0, "c"));
        x.undo();
        Check.same("and again", 1, Picture.print(x, 0, "d"));
        Check.same("its words", "d", Picture.words(x, 1));
    }

    @Says(promise = 2, value = PRINT_ARGUMENT)
    private static void theAuthorsBelow0AndAbove7() {
        Refused.argument(Stand::rich, x -> x.print(-1), x -> x.print(8), x -> x.print(LOWEST),
                x -> x.print(HIGHEST));
    }

    @Says(promise = 2, value = PRINT_ARGUMENT)
    private static void theAuthorComesFirst() {
        Refused.argument(() -> Stand.many(20), x -> x.print(8), x -> x.print(-1));
        Refused.argument(() -> Stand.rich(""), x -> x.print(8), x -> x.print(-1));
        Refused.argument(() -> Stand.rich("\"a\"@3"), x -> x.print(8), x -> x.print(-1));
        Refused.argument(() -> quotingToday("\"a\"@1"), x -> x.print(8), x -> x.print(-1));
    }

    @Says(promise = 2, value = PRINT_STATE)
    private static void theReason1() {
        PamphletQuarrel x = Stand.many(20);
        Check.same("why not", 1, x.whyNotPrinted());
        Refused.state(() -> Stand.many(20), y -> y.print(0), y -> y.print(7));
    }

    @Says(promise = 2, value = PRINT_STATE)
    private static void theReason2() {
        for (String text : new String[] {"", "a ", "A", "\"a\"@", "\"a\"@20"}) {
            Check.same("why not: " + text, 2, Stand.rich(text).whyNotPrinted());
            Refused.state(() -> Stand.rich(text), x -> x.print(0), x -> x.print(7));
        }
    }

    @Says(promise = 2, value = PRINT_STATE)
    private static void theReason3() {
        for (String text : new String[] {"\"a\"@3", "\"a\"@19", "\"a\"@0 \"a\"@3 \"a\"@1"}) {
            Check.same("why not: " + text, 3, Stand.rich(text).whyNotPrinted());
            Refused.state(() -> Stand.rich(text), x -> x.print(0), x -> x.print(7));
        }
    }

    private static PamphletQuarrel quotingToday(String text) {
        PamphletQuarrel x = Picture.daily("a");
        Picture.print(x, 0, "b");
        return Picture.type(x, text);
    }

    @Says(promise = 2, value = PRINT_STATE)
    private static void theReason4() {
        for (String text : new String[] {"\"a\"@1", "\"a\"@0 \"a\"@1", "\"a\"@1 \"a\"@0"}) {
            Check.same("why not: " + text, 4, quotingToday(text).whyNotPrinted());
            Refused.state(() -> quotingToday(text), x -> x.print(0), x -> x.print(7));
        }
    }

    @Says(promise = 2, value = PRINT_STATE)
    private static void noReason() {
        PamphletQuarrel x = quotingToday("\"b\"@0");
        Check.same("why not", 0, x.whyNotPrinted());
        Check.same("printed", 2, x.print(0));
        Picture.type(x, "\"a\"@1");
        x.pass(1);
        Check.same("why not, a day later", 0, x.whyNotPrinted());
        Check.same("printed", 3, x.print(0));
    }

    // ---- promise 3: pass

    @Says(promise = 3, value = "Days pass")
    private static void onlyDaysPass() {
        PamphletQuarrel x = Stand.rich();
        String before = Picture.whole(x).replace("day 4", "day 104");
        Check.same("day", 104, x.pass(100));
        Check.same("then", before, Picture.whole(x));
    }

    @Says(promise = 3, value = "Undoable")
    private static void passIsUndone() {
        PamphletQuarrel x = new PamphletQuarrel();
        x.pass(100);
        x.pass(1);
        Check.same("saved", 2, x.savedStates());
        Check.same("left", 1, x.undo());
        Check.same("day", 100, x.day());
        Check.same("left", 0, x.undo());
        Check.same("day", 0, x.day());
    }

    @Says(promise = 3, value = DAYS)
    private static void oneDayAndHundredDays() {
        for (int days : new int[] {1, 2, 99, 100}) {
            Check.same("days " + days, days, new PamphletQuarrel().pass(days));
        }
    }

    @Says(promise = 3, value = "Returns the day then")
    private static void theDayThen() {
        PamphletQuarrel x = new PamphletQuarrel();
        Check.same("the first day", 1, x.pass(1));
        Check.same("a hundred later", 101, x.pass(100));
        Check.same("one later", 102, x.pass(1));
        Check.same("day", 102, x.day());
    }

    @Says(promise = 3, value = "Throws IllegalArgumentException if days is out of range")
    private static void noDayAndTooManyDays() {
        Refused.argument(Stand::rich, x -> x.pass(0), x -> x.pass(101), x -> x.pass(-1),
                x -> x.pass(LOWEST), x -> x.pass(HIGHEST));
        Refused.argument(PamphletQuarrel::new, x -> x.pass(0), x -> x.pass(101));
    }

    // ---- promise 4: mend

    private static void mends(int changes, String due, String source, String text) {
        PamphletQuarrel x = Picture.daily(source, text);
        Check.same("changes of " + text, changes, x.mend(1, 0));
        Check.same(text + " mended", due, Picture.words(x, 1));
        Check.same("faithful then", 0, x.changesByTable(1, 0));
    }

    @Says(promise = 4, value = "Mends a quotation")
    private static void theOnlyWord() {
        mends(1, "a", "a", "\"b\"@0");
    }

    @Says(promise = 4, value = "Mends a quotation")
    private static void theFirstAndTheLastWord() {
        mends(1, "a b c", "a b c", "\"a x c\"@0");
        mends(1, "b c z", "a b c", "\"b c x\"@0 z");
        mends(1, "z a b", "a b c", "z \"x a b\"@0");
    }

    @Says(promise = 4, value = "Mends a quotation")
    private static void theFirstAndTheLastQuotation() {
        PamphletQuarrel x = Picture.daily("a b c", "\"x\"@0 s \"b x\"@0 t \"x\"@0");
        Check.same("the last", 1, x.mend(1, 2));
        Check.same("then", "x s b x t a", Picture.words(x, 1));
        Check.same("the first", 1, x.mend(1, 0));
        Check.same("then", "a s b x t a", Picture.words(x, 1));
        Check.same("the one between", 1, x.mend(1, 1));
        Check.same("then", "a s b t a", Picture.words(x, 1));
        Check.same("the last moves", "@0 4+1", Picture.quotation(x, 1, 2));
        Check.same("the first stays", "@0 0+1", Picture.quotation(x, 1, 0));
    }

    @Says(promise = 4, value = "Mends a quotation")
    private static void theFirstAndTheLastPamphlet() {
        PamphletQuarrel x = Stand.full();
        Check.same("a quotation of the last one", 1, x.mend(19, 13));
        Check.same("its word", "n", Picture.word(x, 19, 13));
        Check.same("the one before", "z", Picture.word(x, 19, 12));
        Check.same("its first quotation", 1, x.mend(19, 0));
        Check.same("its word", "a", Picture.word(x, 19, 0));
    }

    @Says(promise = 4, value = "Mends a quotation")
    private static void theLastOfSixteenQuotations() {
        PamphletQuarrel x = Picture.daily("a b", Stand.times("\"x\"@0", 16));
        Check.same("mended", 1, x.mend(1, 15));
        Check.same("then", Stand.times("x", 15) + " a", Picture.words(x, 1));
    }

    @Says(promise = 4, value = "Undoable")
    private static void mendIsUndone() {
        PamphletQuarrel x = Picture.daily("a b", "\"a x y\"@0 \"b\"@0");
        String before = Picture.whole(x);
        x.mend(1, 0);
        Check.same("saved", 5, x.savedStates());
        Check.same("left", 4, x.undo());
        Check.same("undone", before, Picture.whole(x));
    }

    @Says(promise = 4, value = "Returns how many changes it had")
    private static void theLeastAndTheMostChanges() {
        mends(1, "a", "a", "\"b\"@0");
        mends(48, "a", "a", "\"" + Stand.times("b", 48) + "\"@0");
        mends(47, "a", "a b", "\"" + Stand.times("a", 48) + "\"@0");
    }

    @Says(promise = 4, value = MEND_INDEX)
    private static void noSuchPamphlet() {
        Refused.index(Stand::rich, x -> x.mend(-1, 0), x -> x.mend(3, 0), x -> x.mend(19, 0),
                x -> x.mend(20, 0), x -> x.mend(LOWEST, 0), x -> x.mend(HIGHEST, 0));
        Refused.index(Stand::empty, x -> x.mend(0, 0));
        Refused.index(Stand::full, x -> x.mend(20, 0), x -> x.mend(-1, 0));
    }

    @Says(promise = 4, value = MEND_INDEX)
    private static void noSuchQuotation() {
        Refused.index(Stand::rich, x -> x.mend(2, -1), x -> x.mend(2, 2), x -> x.mend(1, 1),
                x -> x.mend(0, 0), x -> x.mend(2, 16), x -> x.mend(2, LOWEST),
                x -> x.mend(2, HIGHEST));
        Refused.index(() -> Picture.daily("a", Stand.times("\"x\"@0", 16)), x -> x.mend(1, 16));
    }

    @Says(promise = 4, value = MEND_STATE)
    private static void faithful() {
        Refused.state(Stand::rich, x -> x.mend(2, 0));
        Refused.state(() -> Picture.daily("a b", "\"a b\"@0"), x -> x.mend(1, 0));
    }

    @Says(promise = 4, value = MEND_STATE)
    private static void mendedAlready() {
        Refused.state(() -> {
            PamphletQuarrel x = Stand.rich();
            x.mend(1, 0);
            return x;
        }, x -> x.mend(1, 0));
    }

    // Errata make the first quotation 10 words longer, the second as many as it has gaps; the third
    // has one gap. Of the last words, z, there are as many as told.
    private static PamphletQuarrel growing(int second, int rest) {
        return Picture.daily(Stand.SPACED, Stand.quoted(22, 0) + " " + Stand.quoted(second, 0)
                + " " + Stand.quoted(4, 0) + (rest == 0 ? "" : " " + Stand.times("z", rest)));
    }

    @Says(promise = 4, value = MEND_STATE)
    private static void fiftyNineAndSixtyWords() {
        PamphletQuarrel x = growing(14, 3);
        Check.same("words", 43, x.wordsOf(1));
        Check.same("changes", 10, x.mend(1, 0));
        Check.same("changes", 6, x.mend(1, 1));
        Check.same("words", 59, x.wordsOf(1));
        Check.same("changes", 1, x.mend(1, 2));
        Check.same("words", 60, x.wordsOf(1));
        Check.same("the last word", "z", Picture.word(x, 1, 59));
    }

    // The pamphlet 1 has 60 words.
    private static PamphletQuarrel sixty() {
        PamphletQuarrel x = growing(14, 4);
        x.mend(1, 0);
        x.mend(1, 1);
        return x;
    }

    @Says(promise = 4, value = MEND_STATE)
    private static void sixtyOneWords() {
        Check.same("words", 60, sixty().wordsOf(1));
        Check.same("changes", 1, sixty().changesByTable(1, 2));
        Refused.stateOfManyWords(() -> {
            PamphletQuarrel x = sixty();
            x.takeSnapshot();
            return Picture.type(x, "e f");
        }, x -> x.mend(1, 2));
    }

    @Says(promise = 4, value = MEND_STATE)
    private static void sixtyOneWordsAtOnce() {
        PamphletQuarrel x = growing(16, 2);
        x.mend(1, 0);
        Check.same("words", 54, x.wordsOf(1));
        Check.same("changes", 7, x.changesByTable(1, 1));
        Check.refuses("seven more", IllegalStateException.class, () -> x.mend(1, 1));
        Check.same("words then", 54, x.wordsOf(1));
        Check.same("one more", 1, x.mend(1, 2));
        Check.refuses("seven more", IllegalStateException.class, () -> x.mend(1, 1));
        Check.same("words at last", 55, x.wordsOf(1));
    }

    @Says(promise = 4, value = MEND_STATE)
    private static void sixtyWordsAtOnce() {
        PamphletQuarrel x = growing(16, 1);
        x.mend(1, 0);
        Check.same("words", 53, x.wordsOf(1));
        Check.same("seven more", 7, x.mend(1, 1));
        Check.same("words then", 60, x.wordsOf(1));
    }

    // The third quotation has one change and is as long as its passage.
    @Says(promise = 4, value = MEND_STATE)
    private static void sixtyWordsStaySixty() {
        PamphletQuarrel x = Picture.daily(Stand.SPACED, Stand.quoted(22, 0) + " "
                + Stand.quoted(16, 0) + " \"a z x\"@0 y z");
        x.mend(1, 0);
        x.mend(1, 1);
        Check.same("words", 60, x.wordsOf(1));
        Check.same("changes", 1, x.mend(1, 2));
        Check.same("words then", 60, x.wordsOf(1));
        Check.same("its new word", "b", Picture.word(x, 1, 56));
        Check.same("the last word but one", "y", Picture.word(x, 1, 58));
        Check.same("the last word", "z", Picture.word(x, 1, 59));
        Check.refuses("it is faithful", IllegalStateException.class, () -> x.mend(1, 2));
    }

    @Says(promise = 4, value = MEND_STATE)
    private static void fewerThanSixtyWords() {
        PamphletQuarrel x = Picture.daily(Stand.SPACED, Stand.quoted(22, 0) + " "
                + Stand.quoted(16, 0) + " \"a z z\"@0 y w");
        x.mend(1, 0);
        x.mend(1, 1);
        Check.same("words", 60, x.wordsOf(1));
        Check.same("changes", 2, x.mend(1, 2));
        Check.same("words then", 58, x.wordsOf(1));
        Check.same("the word of the quotation", "a", Picture.word(x, 1, 55));
        Check.same("the last word but one", "y", Picture.word(x, 1, 56));
        Check.same("the last word", "w", Picture.word(x, 1, 57));
    }

    // ---- promise 5: mendAll

    @Says(promise = 5, value = MEND_ALL)
    private static void nothingToMend() {
        Check.same("no pamphlets", 0, new PamphletQuarrel().mendAll());
        Check.same("no quotations", 0, Picture.daily("a", "b").mendAll());
        Check.same("faithful ones", 0, Picture.daily("a", "\"a\"@0 \"a\"@0").mendAll());
    }

    @Says(promise = 5, value = MEND_ALL)
    private static void theFirstAndTheLast() {
        PamphletQuarrel x = Stand.full();
        Check.same("fourteen", 14, x.mendAll());
        Check.same("the first", "a", Picture.word(x, 19, 0));
        Check.same("the last", "n", Picture.word(x, 19, 13));
        PamphletQuarrel y = Picture.daily("a", "\"b\"@0", "a", "\"b\"@2");
        Check.same("two", 2, y.mendAll());
        Check.same("the first", "a", Picture.words(y, 1));
        Check.same("the last", "a", Picture.words(y, 3));
    }

    @Says(promise = 5, value = MEND_ALL)
    private static void mendedWordsMendTheNext() {
        PamphletQuarrel x = Picture.daily("a b c", "\"a z c\"@0", "\"a z\"@1", "\"z\"@2");
        Check.same("three", 3, x.mendAll());
        Check.same("the first", "a b c", Picture.words(x, 1));
        Check.same("the second", "a", Picture.words(x, 2));
        Check.same("the third", "a", Picture.words(x, 3));
    }

    @Says(promise = 5, value = MEND_ALL)
    private static void noRoomForSixtyOneWords() {
        PamphletQuarrel x = growing(16, 2);
        Check.same("the first and the third", 2, x.mendAll());
        Check.same("words", 55, x.wordsOf(1));
        Check.same("the second", 7, x.changesByTable(1, 1));
    }

    @Says(promise = 5, value = MEND_ALL)
    private static void roomForSixtyWords() {
        PamphletQuarrel x = growing(14, 3);
        Check.same("all three", 3, x.mendAll());
        Check.same("words", 60, x.wordsOf(1));
        PamphletQuarrel y = growing(14, 4);
        Check.same("two of three", 2, y.mendAll());
        Check.same("words", 60, y.wordsOf(1));
        Check.same("the third", 1, y.changesByTable(1, 2));
    }

    // The first becomes four words shorter; without that, the third would bring 61 words.
    @Says(promise = 5, value = MEND_ALL)
    private static void roomThatAnEarlierOneMakes() {
        PamphletQuarrel x = Picture.daily(Stand.SPACED,
                "\"z z z z z\"@0 " + Stand.quoted(22, 0) + " " + Stand.quoted(16, 0) + " z");
        Check.same("words", 44, x.wordsOf(1));
        Check.same("all three", 3, x.mendAll());
        Check.same("words then", 57, x.wordsOf(1));
    }

    // The third becomes two words shorter, but the second has its turn before.
    @Says(promise = 5, value = MEND_ALL)
    private static void roomThatALaterOneMakes() {
        PamphletQuarrel x = Picture.daily(Stand.SPACED,
                Stand.quoted(20, 0) + " " + Stand.quoted(20, 0) + " \"z z z\"@0");
        Check.same("words", 43, x.wordsOf(1));
        Check.same("the second has no room at its turn", 2, x.mendAll());
        Check.same("words then", 50, x.wordsOf(1));
        Check.same("the second", 9, x.changesByTable(1, 1));
        Check.same("the next time", 1, x.mendAll());
        Check.same("words at last", 59, x.wordsOf(1));
    }

    @Says(promise = 5, value = MEND_ALL_UNDO)
    private static void noneIsMendedAndUndone() {
        PamphletQuarrel x = new PamphletQuarrel();
        Check.same("none", 0, x.mendAll());
        Check.same("saved", 1, x.savedStates());
        Check.same("left", 0, x.undo());
        PamphletQuarrel y = Picture.daily("a", "\"a\"@0");
        y.mendAll();
        Check.same("saved", 5, y.savedStates());
        y.undo();
        Check.same("the day stays", 2, y.day());
    }

    @Says(promise = 5, value = MEND_ALL_UNDO)
    private static void manyAreMendedAndUndone() {
        PamphletQuarrel x = Picture.daily("a b", "\"a x\"@0 \"y\"@0", "\"y\"@1");
        String before = Picture.whole(x).replace("saved 5", "saved 4");
        Check.same("three", 3, x.mendAll());
        Check.same("saved", 5, x.savedStates());
        Check.same("left", 4, x.undo());
        Check.same("undone", before, Picture.whole(x));
    }

    @Says(promise = 5, value = "Returns how many were mended")
    private static void noneOneAndSixteen() {
        Check.same("none", 0, Picture.daily("a", "\"a\"@0").mendAll());
        Check.same("one", 1, Picture.daily("a", "\"b\"@0").mendAll());
        Check.same("one of two", 1, Picture.daily("a", "\"a\"@0 \"b\"@0").mendAll());
        Check.same("sixteen", 16, Picture.daily("a", Stand.times("\"x\"@0", 16)).mendAll());
    }

    // ---- promise 6: withdraw

    @Says(promise = 6, value = "Withdraws the pamphlet that was printed last")
    private static void theLastOfTwo() {
        PamphletQuarrel x = new PamphletQuarrel();
        Picture.print(x, 1, "a");
        Picture.print(x, 2, "b c");
        x.withdraw();
        Check.same("one is left", 1, x.pamphlets());
        Check.same("the first", "a", Picture.words(x, 0));
        Check.refuses("no second", IndexOutOfBoundsException.class, () -> x.wordsOf(1));
    }

    @Says(promise = 6, value = "Withdraws the pamphlet that was printed last")
    private static void theTwentieth() {
        PamphletQuarrel x = Stand.full();
        Check.same("why not", 1, x.whyNotPrinted());
        Check.same("left", 19, x.withdraw());
        Check.same("why not then", 0, x.whyNotPrinted());
        Check.same("nothing is quoted", 0.0, x.faithfulShare());
        Check.same("the twentieth again", 19, x.print(4));
        Check.same("its quotations", 0, x.quotationsOf(19));
    }

    // The one printed next is shorter and has fewer quotations: all answers are about it alone.
    @Says(promise = 6, value = "Withdraws the pamphlet that was printed last")
    private static void nothingStaysOfIt() {
        PamphletQuarrel x = Picture.daily("a b", "\"a\"@0");
        PamphletQuarrel y = Picture.daily("a b", "\"a\"@0");
        Picture.print(x, 3, "\"z z\"@0 c \"y\"@1 \"a\"@1 d");
        x.withdraw();
        Check.same("all answers without it", Picture.whole(y).replace("saved 4", "saved 5"),
                Picture.whole(x));
        Check.same("nothing is to be mended", 0, x.mendAll());
        for (PamphletQuarrel each : new PamphletQuarrel[] {x, y}) {
            Picture.print(each, 3, "\"a\"@0 e");
            each.pass(1);
            Picture.print(each, 4, "\"e\"@2 \"a\"@1 \"e c\"@2");
        }
        Check.same("all answers", Picture.whole(y), Picture.whole(x));
        Check.same("what quotes the second", 1, x.quotedAgain(1, 0));
        Check.same("a word too many", "1 1 at 1+1", Picture.passage(x, 3, 2));
    }

    @Says(promise = 6, value = "Undoable")
    private static void withdrawIsUndone() {
        PamphletQuarrel x = Picture.daily("a b");
        Picture.print(x, 6, "\"a c\"@0 d");
        String before = Picture.whole(x);
        x.withdraw();
        Check.same("saved", 4, x.savedStates());
        Check.same("left", 3, x.undo());
        Check.same("undone", before, Picture.whole(x));
    }

    @Says(promise = 6, value = "Returns how many pamphlets are left")
    private static void noneAndNineteenAreLeft() {
        Check.same("none", 0, Stand.many(1).withdraw());
        Check.same("one", 1, Stand.many(2).withdraw());
        Check.same("nineteen", 19, Stand.many(20).withdraw());
    }

    @Says(promise = 6, value = WITHDRAW_STATE)
    private static void thereAreNone() {
        Refused.state(PamphletQuarrel::new, x -> x.withdraw());
        Refused.state(Stand::empty, x -> x.withdraw());
        Refused.state(() -> {
            PamphletQuarrel x = Stand.many(1);
            x.withdraw();
            return x;
        }, x -> x.withdraw());
    }

    @Says(promise = 6, value = WITHDRAW_STATE)
    private static void ofTheDayBefore() {
        Refused.state(() -> Picture.daily("a"), x -> x.withdraw());
        Refused.state(Stand::rich, x -> x.withdraw());
    }

    @Says(promise = 6, value = WITHDRAW_STATE)
    private static void ofThisDayButTheOneBeforeIsNot() {
        Refused.state(() -> {
            PamphletQuarrel x = Picture.daily("a");
            Picture.print(x, 0, "b");
            x.withdraw();
            return x;
        }, x -> x.withdraw());
    }

    @Says(promise = 6, value = WITHDRAW_STATE)
    private static void ofThisDayAgain() {
        PamphletQuarrel x = Picture.daily("a");
        x.undo();
        Check.same("undone to the day of printing", 0, x.withdraw());
    }

    @Says(promise = 6, value = WITHDRAW_STATE)
    private static void ofALaterDay() {
        PamphletQuarrel x = new PamphletQuarrel();
        x.pass(100);
        Picture.print(x, 0, "a");
        Check.same("printed on the day 100", 0, x.withdraw());
    }
}
