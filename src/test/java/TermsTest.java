import java.lang.reflect.Method;
import java.lang.reflect.Modifier;

/** The bounds that the document's terms name, but for those of texts. */
public final class TermsTest {
    private static final String AT_MOST_20 = "There are at most 20 pamphlets";
    private static final String AUTHORS = "each by an author, 0 to 7, on a day";
    private static final String STEPS = "The changes of two rows of words are the least number of"
            + " steps that make the one the other: to put a word in, to leave one out, or to put"
            + " one in place of another one";
    private static final String PASSAGE =
            "A passage of a pamphlet is one or more of its words that stand one behind the other";
    private static final String TIES =
            "of several the one that begins first, then the shortest";
    private static final String WITHIN = "A quotation comes from another one, if its whole passage"
            + " is within the words of that quotation (of its source)";
    private static final String TRACE = "and so on, to one that does not come from another one:"
            + " its source is the origin";
    private static final String MENDED = "the words of its passage stand in its place"
            + " (as many as they are)";
    private static final String LADDER = "A ladder of a pamphlet is a row of pamphlets that ends"
            + " with it, each the answer to the one before";
    private static final String READING = "a reader reads it and all that it answers, and all that"
            + " these answer, and so on, each once, by rising numbers";
    private static final String ORDER = "those with the same number in the order of a dictionary";
    private static final String STATE =
            "The state is everything except the buffer, the saved states and the snapshot";
    private static final String UNDOABLE = "Each method that is described as undoable saves the"
            + " state from before the call, unless it throws an exception";
    private static final String DROPPED = "when one more is saved, the oldest one is dropped";
    private static final String FIRST_LISTED =
            "If several exceptions apply, the one that is listed first is thrown";

    private TermsTest() {
    }

    public static void main(String[] args) {
        Check.run(TermsTest.class);
    }

    // ---- calls and constants

    @Says(promise = 0, value = "An object is used for at most 512 calls after it has been made")
    private static void theCall512() {
        PamphletQuarrel x = new PamphletQuarrel();
        for (int call = 1; call <= 511; call++) {
            Check.same("day of the call " + call, 100 * call, x.pass(100));
        }
        Check.same("day of the call 512", 51_200, x.pass(100));
    }

    @Says(promise = 0, value = "An object is used for at most 512 calls after it has been made")
    private static void theCall512OfSigns() {
        PamphletQuarrel x = new PamphletQuarrel();
        for (int text = 0; text < 5; text++) {
            for (int sign = 1; sign <= 100; sign++) {
                Check.same("length", sign, x.append('a' + sign % 26));
            }
            Check.same("length", 100, x.clearText());
        }
        Picture.type(x, "abcde");
        Check.same("the call 511", 0, x.print(0));
        Check.same("the call 512", (int) 'e', x.letterOf(0, 0, 4));
    }

    @Says(promise = 0, value = "All numbers are integers, except for the result of faithfulShare()")
    private static void allNumbersAreIntegers() {
        for (Method method : PamphletQuarrel.class.getDeclaredMethods()) {
            if (Modifier.isPublic(method.getModifiers())) {
                boolean isShare = method.getName().equals("faithfulShare");
                Check.same(method.getName(), isShare, method.getReturnType() == double.class);
            }
        }
    }

    @Says(promise = 0, value = "NONE = -1")
    private static void thereIsNone() {
        Check.same("NONE", -1, PamphletQuarrel.NONE);
        PamphletQuarrel x = Picture.daily("a", "\"a\"@0");
        Check.same("behind a word", -1, x.letterOf(0, 0, 1));
        Check.same("behind a word of the glossary", -1, x.glossaryLetter(0, 1));
        Check.same("from no quotation", -1, x.comesFrom(1, 0));
    }

    // ---- pamphlets

    @Says(promise = 0, value = "Each quotation leads to a page that was printed before")
    private static void onlyEarlierPages() {
        PamphletQuarrel x = Picture.daily(Stand.letters(17), "\"q\"@0");
        Check.same("the page", 2, x.pageOf(1, 0));
        Check.same("of its source", true, x.pageOf(1, 0) < x.pagesOf(x.sourceOf(1, 0)));
        Check.same("printed before", true, x.dayOf(x.sourceOf(1, 0)) < x.dayOf(1));
        x.clearText();
        Picture.type(x, "\"a\"@2");
        Check.same("not by itself", 3, x.whyNotPrinted());
    }

    @Says(promise = 0, value = AT_MOST_20)
    private static void nineteenPamphletsAndOneMore() {
        PamphletQuarrel x = Stand.many(19);
        Check.same("why not", 0, x.whyNotPrinted());
        Check.same("the twentieth", 19, x.print(0));
        Check.same("pamphlets", 20, x.pamphlets());
    }

    @Says(promise = 0, value = AT_MOST_20)
    private static void twentyPamphletsAndOneMore() {
        Refused.state(() -> Stand.many(20), x -> x.print(0));
        PamphletQuarrel x = Stand.many(20);
        Check.same("why not", 1, x.whyNotPrinted());
        Check.same("pamphlets", 20, x.pamphlets());
    }

    @Says(promise = 0, value = "numbered from 0 in the order in which they are printed")
    private static void numbersByOrder() {
        PamphletQuarrel x = new PamphletQuarrel();
        for (int number = 0; number < 20; number++) {
            x.append('a' + number);
            Check.same("number", number, x.print(7 - number % 8));
        }
        for (int number = 0; number < 20; number++) {
            Check.same("its word", 'a' + number, x.letterOf(number, 0, 0));
            Check.same("its author", 7 - number % 8, x.authorOf(number));
        }
    }

    @Says(promise = 0, value = AUTHORS)
    private static void theAuthors0To7() {
        PamphletQuarrel x = new PamphletQuarrel();
        for (int author = 0; author <= 7; author++) {
            Check.same("number", author, Picture.print(x, author, "a"));
            Check.same("author", author, x.authorOf(author));
            Check.same("blame", 0, x.blameOf(author));
        }
    }

    @Says(promise = 0, value = AUTHORS)
    private static void theAuthorsBelow0AndAbove7() {
        Refused.argument(Stand::rich, x -> x.print(-1), x -> x.print(8));
        Refused.index(Stand::rich, x -> x.blameOf(-1), x -> x.blameOf(8));
    }

    @Says(promise = 0, value = AUTHORS)
    private static void theDaysOfPrinting() {
        PamphletQuarrel x = new PamphletQuarrel();
        Picture.print(x, 0, "a");
        x.pass(100);
        Picture.print(x, 0, "b");
        Check.same("the first day", 0, x.dayOf(0));
        Check.same("the last day", 100, x.dayOf(1));
    }

    @Says(promise = 0, value = "The day is 0 at first")
    private static void theFirstDay() {
        Check.same("day", 0, new PamphletQuarrel().day());
    }

    @Says(promise = 0, value = "A pamphlet answers each other one that is a source of one of its"
            + " quotations")
    private static void answersOthersOnly() {
        PamphletQuarrel x = Picture.daily("a", "b", "\"a\"@0 \"b\"@1 \"a\"@0");
        Check.same("the first source", true, x.answers(2, 0));
        Check.same("the last source", true, x.answers(2, 1));
        Check.same("itself", false, x.answers(2, 2));
        Check.same("without quotations", false, x.answers(1, 0));
    }

    // ---- passages and changes

    private static void passage(String due, String source, String quotation) {
        PamphletQuarrel x = Picture.daily(source, "\"" + quotation + "\"@0");
        Check.same(quotation + " of " + source, due, Picture.passage(x, 1, 0));
    }

    @Says(promise = 0, value = STEPS)
    private static void noStep() {
        passage("0 0 at 0+1", "a", "a");
        passage("0 0 at 0+3", "a b c", "a b c");
    }

    @Says(promise = 0, value = STEPS)
    private static void oneStepOfEachKind() {
        passage("1 1 at 0+5", "a b c d e", "a b d e");
        passage("1 1 at 0+4", "a b c d", "a b x c d");
        passage("1 1 at 0+3", "a b c", "a x c");
    }

    @Says(promise = 0, value = STEPS)
    private static void allStepsThatThereCanBe() {
        passage("1 1 at 0+1", "a", "x");
        passage("5 5 at 0+1", "a b c", "x x x x x");
        String most = Stand.times("b", 48);
        PamphletQuarrel x = Picture.daily(Stand.times("a", 50), "\"" + most + "\"@0");
        Check.same("48 of 50", "48 48 at 0+1", Picture.passage(x, 1, 0));
    }

    @Says(promise = 0, value = STEPS)
    private static void severalSteps() {
        passage("2 2 at 0+3", "a b c d", "x b c x");
        passage("2 2 at 1+3", "x a b c", "a z z b c");
        passage("2 2 at 0+8", "a b c x y d e f", "a b c d e f");
        passage("3 3 at 0+8", "a b c d e f g h", "a x c d y e g h");
    }

    @Says(promise = 0, value = PASSAGE)
    private static void oneWordAtLeast() {
        passage("1 1 at 0+1", "a b", "x");
        passage("2 2 at 0+1", "a b", "x y");
        passage("2 2 at 0+1", "a", "x y");
    }

    @Says(promise = 0, value = PASSAGE)
    private static void allWordsAtMost() {
        passage("0 0 at 0+4", "a b c d", "a b c d");
        passage("2 2 at 0+2", "a b", "x a b y");
    }

    @Says(promise = 0, value = PASSAGE)
    private static void theFirstAndTheLastWord() {
        passage("0 0 at 0+1", "a b c", "a");
        passage("0 0 at 2+1", "a b c", "c");
        passage("0 0 at 0+2", "a b c", "a b");
        passage("0 0 at 1+2", "a b c", "b c");
    }

    @Says(promise = 0, value = PASSAGE)
    private static void oneBehindTheOther() {
        passage("1 1 at 0+1", "a b c", "a c");
        passage("1 1 at 0+1", "a b c", "c a");
    }

    @Says(promise = 0, value = "The changes of a quotation are the least changes of its words and a"
            + " passage of its source")
    private static void theLeastOfAllPassages() {
        passage("1 1 at 2+1", "x y a b", "a c");
        passage("0 0 at 3+2", "a c d a b", "a b");
        passage("0 0 at 0+2", "a b a c", "a b");
        passage("1 1 at 4+3", "a x y b a c b", "a d b");
    }

    @Says(promise = 0, value = TIES)
    private static void theFirstOfTheSameChanges() {
        passage("0 0 at 0+1", "a a", "a");
        passage("0 0 at 1+2", "b a b a b", "a b");
        passage("1 1 at 0+2", "b a c a", "x a");
    }

    @Says(promise = 0, value = TIES)
    private static void theShortestOfTheSameBegin() {
        passage("1 1 at 0+1", "b c d", "a");
        passage("2 2 at 0+1", "a b c", "x y");
        passage("1 1 at 1+1", "x a c b", "a b");
    }

    @Says(promise = 0, value = TIES)
    private static void theBeginBeforeTheLength() {
        passage("1 1 at 0+5", "a b x c d z a b c z", "a b c d");
        passage("0 0 at 0+1", "a b a", "a");
    }

    @Says(promise = 0, value = "A quotation is faithful if it has no changes")
    private static void noChangeAndOneChange() {
        PamphletQuarrel x = Picture.daily("a b", "\"a b\"@0", "\"a c\"@0");
        Check.same("no change", 0, x.changesByTable(1, 0));
        Check.same("one change", 1, x.changesByTable(2, 0));
        Check.same("one of two is faithful", 0.5, x.faithfulShare());
    }

    // ---- where quotations come from

    // The words 1 to 3 of the pamphlet 1 are its first quotation, the words 4 and 5 its second.
    private static void comes(int due, String quotation) {
        PamphletQuarrel x = Picture.daily("a b c d e", "s \"a b c\"@0 \"d e\"@0 t",
                "\"" + quotation + "\"@1");
        Check.same("the quotation that " + quotation + " comes from", due, x.comesFrom(2, 0));
    }

    @Says(promise = 0, value = WITHIN)
    private static void theWholeQuotation() {
        comes(0, "a b c");
        comes(1, "d e");
    }

    @Says(promise = 0, value = WITHIN)
    private static void itsFirstWordAndOneBefore() {
        comes(0, "a");
        comes(-1, "s");
        comes(-1, "s a");
        comes(-1, "s a b c");
    }

    @Says(promise = 0, value = WITHIN)
    private static void itsLastWordAndOneBehind() {
        comes(0, "c");
        comes(1, "e");
        comes(-1, "t");
        comes(-1, "e t");
        comes(-1, "d e t");
    }

    @Says(promise = 0, value = WITHIN)
    private static void fromOneQuotationIntoTheNext() {
        comes(1, "d");
        comes(-1, "c d");
        comes(-1, "a b c d e");
    }

    @Says(promise = 0, value = TRACE)
    private static void tracedToItself() {
        PamphletQuarrel x = Picture.daily("a", "b \"a\"@0", "\"b\"@1");
        Check.same("of a source without quotations", "from -1 of 0 through 1 with 0",
                Picture.trace(x, 1, 0));
        Check.same("of words that are not quoted", "from -1 of 1 through 1 with 0",
                Picture.trace(x, 2, 0));
    }

    @Says(promise = 0, value = TRACE)
    private static void tracedThroughAll() {
        PamphletQuarrel x = Picture.daily("b a");
        for (int i = 0; i < 19; i++) {
            Picture.print(x, 0, "\"a\"@" + i);
            x.pass(1);
        }
        Check.same("through nineteen", "from 0 of 0 through 19 with 0", Picture.trace(x, 19, 0));
    }

    // ---- errata

    private static void mended(String due, String source, String text) {
        PamphletQuarrel x = Picture.daily(source, text);
        x.mend(1, 0);
        Check.same(text + " mended", due, Picture.words(x, 1));
    }

    @Says(promise = 0, value = MENDED)
    private static void asManyWords() {
        mended("b", "b", "\"a\"@0");
        mended("x b c y", "b c", "x \"a c\"@0 y");
    }

    @Says(promise = 0, value = MENDED)
    private static void fewerWords() {
        mended("a", "a", "\"a x\"@0");
        mended("x a y", "a", "x \"b c d e\"@0 y");
    }

    @Says(promise = 0, value = MENDED)
    private static void moreWords() {
        mended("a b c d e", "a b c d e", "\"a b d e\"@0");
        mended("x a b c d e y", "z a b c d e", "x \"a b d e\"@0 y");
    }

    // ---- ladders and reading

    @Says(promise = 0, value = LADDER)
    private static void aLadderOfOne() {
        PamphletQuarrel x = Picture.daily("a");
        Check.same("the longest", 1, x.ladderOf(0));
        Check.same("ladders", 1, x.laddersOf(0));
    }

    @Says(promise = 0, value = LADDER)
    private static void aLadderOfTwenty() {
        PamphletQuarrel x = Picture.daily("a");
        for (int i = 0; i < 19; i++) {
            Picture.print(x, 0, "\"a\"@" + i);
            x.pass(1);
        }
        Check.same("the longest", 20, x.ladderOf(19));
        Check.same("the first of it", 1, x.ladderOf(0));
        Check.same("ladders", 1, x.laddersOf(19));
    }

    @Says(promise = 0, value = READING)
    private static void readsItself() {
        PamphletQuarrel x = Picture.daily("a", "b");
        Check.same("the only one", "1 1: 1", Picture.ladders(x, 1));
    }

    @Says(promise = 0, value = READING)
    private static void readsEachOnceByRisingNumbers() {
        PamphletQuarrel x = Picture.daily("a", "b", "\"b\"@1 \"a\"@0", "\"b\"@1",
                "\"b\"@3 \"b\"@2 \"b\"@3");
        Check.same("all", "3 3: 0 1 2 3 4", Picture.ladders(x, 4));
        Check.same("not all", "2 1: 1 3", Picture.ladders(x, 3));
    }

    // ---- the glossary

    @Says(promise = 0, value = "The glossary has all different words of all pamphlets")
    private static void eachWordOnce() {
        Check.same("no words", 0, new PamphletQuarrel().glossary());
        Check.same("one word", 1, Picture.daily("a a", "a").glossary());
        Check.same("those of quotations too", 3, Picture.daily("a", "\"b\"@0 c").glossary());
    }

    @Says(promise = 0, value = "They are ordered by how often they stand in pamphlets, the most"
            + " frequent first")
    private static void theMostFrequentFirst() {
        PamphletQuarrel x = Picture.daily("a b c b c c", "z z \"z z\"@0");
        Check.same("all", "z4 c3 b2 a1", Picture.glossary(x));
    }

    @Says(promise = 0, value = ORDER)
    private static void theOrderOfADictionary() {
        PamphletQuarrel x = Picture.daily("b aa a ab abcdefg abcdefh az bz ba zzzzzzz z");
        Check.same("all", "a1 aa1 ab1 abcdefg1 abcdefh1 az1 b1 ba1 bz1 z1 zzzzzzz1",
                Picture.glossary(x));
    }

    @Says(promise = 0, value = ORDER)
    private static void theNumberBeforeTheDictionary() {
        PamphletQuarrel x = Picture.daily("a z b z b");
        Check.same("all", "b2 z2 a1", Picture.glossary(x));
    }

    // ---- undo and exceptions

    @Says(promise = 0, value = STATE)
    private static void undoLeavesTheBuffer() {
        PamphletQuarrel x = Stand.rich();
        x.undo();
        Check.same("length", 3, x.clearText());
    }

    @Says(promise = 0, value = STATE)
    private static void undoLeavesTheSnapshot() {
        PamphletQuarrel x = new PamphletQuarrel();
        x.pass(1);
        x.takeSnapshot();
        x.undo();
        Check.same("day", 0, x.day());
        x.restoreSnapshot();
        Check.same("day of the snapshot", 1, x.day());
    }

    @Says(promise = 0, value = STATE)
    private static void undoBringsAllElseBack() {
        PamphletQuarrel x = Picture.daily("a b", "\"a c\"@0");
        String before = Picture.whole(x);
        x.pass(7);
        x.undo();
        Check.same("undone", before, Picture.whole(x));
    }

    @Says(promise = 0, value = UNDOABLE)
    private static void eachUndoableMethodSaves() {
        PamphletQuarrel x = new PamphletQuarrel();
        Picture.print(x, 0, "a b");
        Check.same("print", 1, x.savedStates());
        x.withdraw();
        Check.same("withdraw", 2, x.savedStates());
        x.mendAll();
        Check.same("mendAll", 3, x.savedStates());
        x.pass(1);
        Check.same("pass", 4, x.savedStates());
        x.takeSnapshot();
        x.restoreSnapshot();
        Check.same("restoreSnapshot", 5, x.savedStates());
        x = Picture.daily("a b", "\"a c\"@0");
        x.mend(1, 0);
        Check.same("mend", 5, x.savedStates());
    }

    @Says(promise = 0, value = UNDOABLE)
    private static void noOtherMethodSaves() {
        PamphletQuarrel x = Picture.daily("a b", "\"a c\"@0");
        x.append('a');
        x.clearText();
        x.takeSnapshot();
        Picture.whole(x);
        Check.same("saved", 4, x.savedStates());
    }

    @Says(promise = 0, value = UNDOABLE)
    private static void noSaveWithAnException() {
        Refused.argument(Stand::rich, x -> x.print(8), x -> x.pass(0));
        Refused.state(Stand::rich, x -> x.mend(2, 0), x -> x.withdraw());
        Refused.index(Stand::rich, x -> x.mend(3, 0));
        Refused.state(() -> Stand.rich("A"), x -> x.print(0));
        Refused.state(Stand::empty, x -> x.restoreSnapshot());
    }

    @Says(promise = 0, value = "At most 5 states are saved")
    private static void fiveStates() {
        PamphletQuarrel x = new PamphletQuarrel();
        for (int i = 1; i <= 5; i++) {
            x.pass(1);
            Check.same("saved", i, x.savedStates());
        }
        for (int i = 4; i >= 0; i--) {
            Check.same("left", i, x.undo());
        }
        Check.same("the first day", 0, x.day());
    }

    @Says(promise = 0, value = DROPPED)
    private static void sixStates() {
        PamphletQuarrel x = new PamphletQuarrel();
        for (int i = 1; i <= 6; i++) {
            x.pass(1);
        }
        Check.same("saved", 5, x.savedStates());
        for (int i = 4; i >= 0; i--) {
            Check.same("left", i, x.undo());
            Check.same("day", i + 1, x.day());
        }
        Check.refuses("one more", IllegalStateException.class, x::undo);
        Check.same("the first is dropped", 1, x.day());
    }

    @Says(promise = 0, value = "The snapshot is one more copy of the state that can be taken and"
            + " restored")
    private static void theSnapshotIsOneMore() {
        PamphletQuarrel x = new PamphletQuarrel();
        for (int i = 1; i <= 5; i++) {
            x.pass(1);
        }
        x.takeSnapshot();
        Check.same("five are saved beside it", 5, x.savedStates());
        for (int i = 4; i >= 0; i--) {
            Check.same("left", i, x.undo());
        }
        x.restoreSnapshot();
        Check.same("restored", 5, x.day());
    }

    @Says(promise = 0, value = "A call that throws an exception changes nothing")
    private static void eachExceptionLeavesNoTrace() {
        Refused.argument(Stand::rich, x -> x.print(-1), x -> x.pass(101), x -> x.append(127));
        Refused.index(Stand::rich, x -> x.mend(0, 0), x -> x.comesFrom(2, 2), x -> x.readAt(2, 3),
                x -> x.timesOf(9), x -> x.letterOf(0, 0, -1));
        Refused.state(Stand::rich, x -> x.mend(2, 0), x -> x.withdraw());
        Refused.state(PamphletQuarrel::new, x -> x.undo(), x -> x.restoreSnapshot());
    }

    @Says(promise = 0, value = FIRST_LISTED)
    private static void theFirstListedException() {
        Refused.argument(() -> Stand.rich("A"), x -> x.print(8));
        Refused.argument(() -> Stand.rich(Stand.times("a", 50) + " "), x -> x.append(31));
        Refused.index(Stand::rich, x -> x.mend(2, -1));
    }

    @Says(promise = 0, value = "An IndexOutOfBoundsException is thrown if there is no pamphlet,"
            + " author, quotation, word, page or place with a given number")
    private static void noneWithSuchANumber() {
        Refused.index(Stand::rich, x -> x.authorOf(3), x -> x.blameOf(8), x -> x.sourceOf(1, 1),
                x -> x.letterOf(0, 3, 0), x -> x.wordsOn(0, 1), x -> x.readAt(0, 1),
                x -> x.timesOf(x.glossary()));
        Refused.index(Stand::rich, x -> x.authorOf(-1), x -> x.blameOf(-1), x -> x.sourceOf(1, -1),
                x -> x.letterOf(0, -1, 0), x -> x.wordsOn(0, -1), x -> x.readAt(0, -1),
                x -> x.timesOf(-1));
    }
}
