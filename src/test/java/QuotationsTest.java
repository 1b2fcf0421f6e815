/** The bounds of the promises 17 to 30: quotationsOf to quotedAgain. */
public final class QuotationsTest {
    private static final String NO_PAMPHLET =
            "Throws IndexOutOfBoundsException if there is no such pamphlet";
    private static final String NO_QUOTATION =
            "Throws IndexOutOfBoundsException if there is no such pamphlet or quotation";
    private static final String BEGIN = "Returns the number of the first word of a quotation";
    private static final String LENGTH = "Returns how many words a quotation has";
    private static final String TABLE =
            "Returns the changes of a quotation, told by one table for all passages";
    private static final String PASSAGES = "Returns the same, told passage by passage";
    private static final String PASSAGE_OF =
            "Returns the number of the first word of the passage of a quotation, in its source";
    private static final String PASSAGE_LENGTH =
            "Returns how many words the passage of a quotation has";
    private static final String PAGE =
            "Returns the page of the source on which the passage of a quotation begins";
    private static final String FROM = "Returns its number in the source";
    private static final String FROM_NONE = "NONE if it comes from none";
    private static final String ORIGIN = "Returns the origin of a quotation";
    private static final String TRACE = "Returns how many quotations are gone through when a"
            + " quotation is traced, itself included";
    private static final String AT_ORIGIN =
            "Returns the least changes of the words of a quotation and a passage of its origin";
    private static final String AGAIN = "Returns how many quotations come from a quotation";

    private QuotationsTest() {
    }

    public static void main(String[] args) {
        Check.run(QuotationsTest.class);
    }

    private static String quote(String words, int source) {
        return "\"" + words + "\"@" + source;
    }

    // The pamphlet 1 has 60 words, its last quotation is the last word.
    private static PamphletQuarrel sixty() {
        PamphletQuarrel x = Picture.daily(Stand.SPACED, Stand.quoted(22, 0) + " "
                + Stand.quoted(14, 0) + " " + Stand.times("z", 7) + " " + quote("a", 0));
        x.mend(1, 0);
        x.mend(1, 1);
        return x;
    }

    // The pamphlet 2 quotes 48 of the 60 words of the pamphlet 1, its first and last one too.
    private static PamphletQuarrel almostSixty() {
        PamphletQuarrel x = sixty();
        StringBuilder words = new StringBuilder();
        for (int i = 0; i < 60; i++) {
            if (i % 4 != 2 || i > 48) {
                words.append(i == 0 ? "" : " ").append((char) x.letterOf(1, i, 0));
            }
        }
        Picture.print(x, 0, quote(words.toString(), 1));
        return x;
    }

    // ---- promise 17: quotationsOf

    @Says(promise = 17, value = "Returns how many quotations a pamphlet has")
    private static void noneOneAndSixteen() {
        PamphletQuarrel x = Picture.daily("a b", quote("a b", 0), Stand.times(quote("a", 0), 16),
                Stand.times(quote("a", 0), 16) + " abcd");
        int[] due = {0, 1, 16, 16};
        for (int i = 0; i < due.length; i++) {
            Check.same("of the pamphlet " + i, due[i], x.quotationsOf(i));
        }
    }

    @Says(promise = 17, value = "Returns how many quotations a pamphlet has")
    private static void noFewerWhenTheyAreMended() {
        PamphletQuarrel x = Picture.daily("a b", quote("x", 0) + " " + quote("y y", 0));
        x.mendAll();
        Check.same("quotations", 2, x.quotationsOf(1));
    }

    @Says(promise = 17, value = NO_PAMPHLET)
    private static void noPamphletWithQuotations() {
        Numbers.pamphlets((x, pamphlet) -> x.quotationsOf(pamphlet));
    }

    // ---- promise 18: sourceOf

    @Says(promise = 18, value = "Returns the source of a quotation")
    private static void eachSource() {
        PamphletQuarrel x = Stand.many(19);
        x.clearText();
        x.pass(1);
        StringBuilder text = new StringBuilder();
        int[] sources = {0, 1, 2, 8, 9, 10, 11, 17, 18, 1, 0, 18};
        for (int source : sources) {
            text.append(text.length() == 0 ? "" : " ").append(quote("a", source));
        }
        Picture.print(x, 0, text.toString());
        for (int i = 0; i < sources.length; i++) {
            Check.same("the source " + i, sources[i], x.sourceOf(19, i));
        }
    }

    @Says(promise = 18, value = "Returns the source of a quotation")
    private static void theSameWhenItIsMended() {
        PamphletQuarrel x = Picture.daily("a", "b", quote("x", 1) + " " + quote("x x", 0));
        x.mendAll();
        Check.same("the first", 1, x.sourceOf(2, 0));
        Check.same("the last", 0, x.sourceOf(2, 1));
    }

    @Says(promise = 18, value = NO_QUOTATION)
    private static void noSuchSourceOf() {
        Numbers.quotations((x, pamphlet, quotation) -> x.sourceOf(pamphlet, quotation));
    }

    // ---- promises 19 and 20: beginOf and lengthOf

    @Says(promise = 19, value = BEGIN)
    private static void theFirstWordAndTheLastOne() {
        PamphletQuarrel x = Picture.daily("a", quote("a", 0) + " b",
                Stand.times("b", 47) + " " + quote("a", 0), Stand.times(quote("a", 0), 16));
        Check.same("the first word", 0, x.beginOf(1, 0));
        Check.same("the last word", 47, x.beginOf(2, 0));
        for (int i = 0; i < 16; i++) {
            Check.same("the word " + i, i, x.beginOf(3, i));
        }
    }

    @Says(promise = 19, value = BEGIN)
    private static void theSixtiethWord() {
        Check.same("the word", 59, sixty().beginOf(1, 2));
    }

    @Says(promise = 19, value = NO_QUOTATION)
    private static void noSuchBeginOf() {
        Numbers.quotations((x, pamphlet, quotation) -> x.beginOf(pamphlet, quotation));
    }

    @Says(promise = 20, value = LENGTH)
    private static void oneWordAndFortyEight() {
        PamphletQuarrel x = Picture.daily("a", quote("a", 0) + " " + quote("abcdefg a", 0),
                quote(Stand.times("a", 48), 0));
        Check.same("one word", 1, x.lengthOf(1, 0));
        Check.same("two words", 2, x.lengthOf(1, 1));
        Check.same("the most words of a text", 48, x.lengthOf(2, 0));
    }

    @Says(promise = 20, value = LENGTH)
    private static void sixtyWords() {
        PamphletQuarrel x = almostSixty();
        Check.same("before", 48, x.lengthOf(2, 0));
        Check.same("changes", 12, x.mend(2, 0));
        Check.same("then", 60, x.lengthOf(2, 0));
        Check.same("words", 60, x.wordsOf(2));
        Check.same("the last word", true, x.isSameWord(2, 59, 1, 59));
    }

    @Says(promise = 20, value = LENGTH)
    private static void oneWordWhenItIsMended() {
        PamphletQuarrel x = Picture.daily("a", quote(Stand.times("b", 48), 0));
        x.mend(1, 0);
        Check.same("then", 1, x.lengthOf(1, 0));
    }

    @Says(promise = 20, value = NO_QUOTATION)
    private static void noSuchLengthOf() {
        Numbers.quotations((x, pamphlet, quotation) -> x.lengthOf(pamphlet, quotation));
    }

    // ---- promises 21 and 22: changesByTable and changesByPassages

    private static int byTable(String source, String words) {
        return Picture.daily(source, quote(words, 0)).changesByTable(1, 0);
    }

    private static int byPassages(String source, String words) {
        return Picture.daily(source, quote(words, 0)).changesByPassages(1, 0);
    }

    // The changes, the source and the words of a quotation.
    private static final String[][] CHANGES = {
        {"0", "a", "a"}, {"1", "a", "b"}, {"1", "a", "a b"}, {"1", "a", "b a"}, {"2", "a", "b a b"},
        {"0", "a b c", "a"}, {"0", "a b c", "c"}, {"0", "a b c", "a b c"}, {"1", "a b c", "a c"},
        {"1", "a b c", "d a b c"}, {"1", "a b c", "a b c d"}, {"2", "a b c", "d a b c d"},
        {"3", "a b c", "d d d"}, {"4", "a b c", "d d d d"}, {"2", "a b c d", "b a d c"},
        {"1", "a b c d e", "a b d e"}, {"1", "a b c d", "x b c d"}, {"1", "a b c d", "a b c x"},
        {"0", "abcdefg", "abcdefg"}, {"1", "abcdefg", "abcdefh"}, {"1", "abcdefg", "abcdef"},
    };

    @Says(promise = 21, value = TABLE)
    private static void noChangeToAllOfThem() {
        for (String[] due : CHANGES) {
            Check.same(due[2] + " of " + due[1], due[0], "" + byTable(due[1], due[2]));
        }
    }

    @Says(promise = 21, value = TABLE)
    private static void theLongestQuotations() {
        String most = Stand.times("a", 48);
        Check.same("of the longest text", 0, byTable(Stand.times("a", 50), most));
        Check.same("nothing the same", 48, byTable(Stand.times("b", 50), most));
        Check.same("one word the same", 47, byTable("b a b", most));
        Check.same("of one word", 47, byTable("a", most));
        Check.same("of another word", 48, byTable("b", most));
    }

    @Says(promise = 21, value = TABLE)
    private static void ofSixtyWords() {
        PamphletQuarrel x = almostSixty();
        Check.same("twelve are left out", 12, x.changesByTable(2, 0));
        x.mend(2, 0);
        Check.same("all sixty", 0, x.changesByTable(2, 0));
    }

    @Says(promise = 21, value = NO_QUOTATION)
    private static void noSuchChangesByTable() {
        Numbers.quotations((x, pamphlet, quotation) -> x.changesByTable(pamphlet, quotation));
    }

    @Says(promise = 22, value = PASSAGES)
    private static void noChangeToAllOfThemByPassages() {
        for (String[] due : CHANGES) {
            Check.same(due[2] + " of " + due[1], due[0], "" + byPassages(due[1], due[2]));
        }
    }

    @Says(promise = 22, value = PASSAGES)
    private static void theLongestQuotationsByPassages() {
        String most = Stand.times("a", 48);
        Check.same("of the longest text", 0, byPassages(Stand.times("a", 50), most));
        Check.same("nothing the same", 48, byPassages(Stand.times("b", 50), most));
        Check.same("one word the same", 47, byPassages("b a b", most));
        Check.same("of one word", 47, byPassages("a", most));
        Check.same("of another word", 48, byPassages("b", most));
    }

    @Says(promise = 22, value = PASSAGES)
    private static void ofSixtyWordsByPassages() {
        PamphletQuarrel x = almostSixty();
        Check.same("twelve are left out", 12, x.changesByPassages(2, 0));
        x.mend(2, 0);
        Check.same("all sixty", 0, x.changesByPassages(2, 0));
    }

    @Says(promise = 22, value = NO_QUOTATION)
    private static void noSuchChangesByPassages() {
        Numbers.quotations((x, pamphlet, quotation) -> x.changesByPassages(pamphlet, quotation));
    }

    // ---- promises 23 and 24: passageOf and passageLength

    private static int passageOf(String source, String words) {
        return Picture.daily(source, quote(words, 0)).passageOf(1, 0);
    }

    private static int passageLength(String source, String words) {
        return Picture.daily(source, quote(words, 0)).passageLength(1, 0);
    }

    @Says(promise = 23, value = PASSAGE_OF)
    private static void passagesAtBothEnds() {
        Check.same("the only word", 0, passageOf("a", "a"));
        Check.same("the first word", 0, passageOf("a b c", "a"));
        Check.same("the last word", 2, passageOf("a b c", "c"));
        Check.same("all words", 0, passageOf("a b c", "a b c"));
        Check.same("the last of fifty words", 49, passageOf(Stand.times("a", 49) + " b", "b"));
        Check.same("the last two of fifty", 48, passageOf(Stand.times("a", 49) + " b", "a b"));
    }

    @Says(promise = 23, value = PASSAGE_OF)
    private static void theFirstOfSeveral() {
        Check.same("the same word twice", 1, passageOf("b a b a", "a"));
        Check.same("nothing the same", 0, passageOf("a b c", "d"));
        Check.same("nothing of three the same", 0, passageOf("a b c", "d d d"));
        Check.same("the first of two changes", 0, passageOf("a x b y a", "a y"));
        Check.same("fewer changes later", 2, passageOf("a c a b", "a b"));
        Check.same("the same changes with one word more", 0, passageOf("b a", "c a"));
    }

    @Says(promise = 23, value = PASSAGE_OF)
    private static void passagesOfSixtyWords() {
        PamphletQuarrel x = sixty();
        Picture.print(x, 0, quote("z a", 1) + " " + quote("z z", 1) + " " + quote("d", 1));
        Check.same("the last two words", 58, x.passageOf(2, 0));
        Check.same("the first z", 52, x.passageOf(2, 1));
        Check.same("a word of the first quotation", 4, x.passageOf(2, 2));
        Check.same("all words", 0, almostSixty().passageOf(2, 0));
    }

    @Says(promise = 23, value = NO_QUOTATION)
    private static void noSuchPassageOf() {
        Numbers.quotations((x, pamphlet, quotation) -> x.passageOf(pamphlet, quotation));
    }

    @Says(promise = 24, value = PASSAGE_LENGTH)
    private static void oneWordAtLeast() {
        Check.same("the only word", 1, passageLength("a", "a"));
        Check.same("another word", 1, passageLength("a b", "c"));
        Check.same("more words than it has", 1, passageLength("a", "b c d"));
        Check.same("nothing the same", 1, passageLength("a b c", "x y z"));
        Check.same("nothing of 48 the same", 1, passageLength("a b c", Stand.times("x", 48)));
    }

    @Says(promise = 24, value = PASSAGE_LENGTH)
    private static void allWordsAtMost() {
        Check.same("all three", 3, passageLength("a b c", "a b c"));
        Check.same("more are quoted", 3, passageLength("a b c", "x a b c x"));
        String most = Stand.letters(25) + " " + Stand.letters(25);
        String two = " k l";
        Check.same("all fifty", 50, passageLength(most, most.replaceFirst(two, "")));
        Check.same("all sixty", 60, almostSixty().passageLength(2, 0));
    }

    @Says(promise = 24, value = PASSAGE_LENGTH)
    private static void theShortestOfSeveral() {
        Check.same("a word changed or left out", 1, passageLength("a b", "a c"));
        Check.same("longer if that begins before", 2, passageLength("b a", "c a"));
        Check.same("longer with fewer changes", 5, passageLength("a b x c d", "a b c d"));
    }

    @Says(promise = 24, value = NO_QUOTATION)
    private static void noSuchPassageLength() {
        Numbers.quotations((x, pamphlet, quotation) -> x.passageLength(pamphlet, quotation));
    }

    // ---- promise 25: pageOf

    private static String marked(int words, int marked) {
        StringBuilder text = new StringBuilder();
        for (int i = 0; i < words; i++) {
            text.append(i == 0 ? "" : " ").append(i == marked ? 'b' : 'a');
        }
        return text.toString();
    }

    @Says(promise = 25, value = PAGE)
    private static void eitherSideOfEachPage() {
        int[][] due = {{0, 0}, {7, 0}, {8, 1}, {15, 1}, {16, 2}, {23, 2}, {24, 3}, {31, 3}, {32, 4},
            {39, 4}, {40, 5}, {47, 5}, {48, 6}, {49, 6}};
        for (int[] pair : due) {
            PamphletQuarrel x = Picture.daily(marked(50, pair[0]), quote("b", 0));
            Check.same("the page of the word " + pair[0], pair[1], x.pageOf(1, 0));
        }
    }

    @Says(promise = 25, value = PAGE)
    private static void whereItBeginsNotWhereItEnds() {
        PamphletQuarrel x = Picture.daily(Stand.letters(17), quote("h i", 0), Stand.quoted(9, 0));
        Check.same("from one page to the next", 0, x.pageOf(1, 0));
        Check.same("more than a page", 0, x.pageOf(2, 0));
    }

    @Says(promise = 25, value = PAGE)
    private static void theEighthPage() {
        PamphletQuarrel x = sixty();
        Picture.print(x, 0, quote("z a", 1) + " " + quote("z z", 1));
        Check.same("the word 58", 7, x.pageOf(2, 0));
        Check.same("the word 52", 6, x.pageOf(2, 1));
    }

    @Says(promise = 25, value = NO_QUOTATION)
    private static void noSuchPageOf() {
        Numbers.quotations((x, pamphlet, quotation) -> x.pageOf(pamphlet, quotation));
    }

    // ---- promise 26: comesFrom

    @Says(promise = 26, value = FROM)
    private static void theFirstAndTheLastOfSixteen() {
        StringBuilder text = new StringBuilder();
        for (int i = 0; i < 16; i++) {
            text.append(i == 0 ? "" : " ").append(quote("" + (char) ('a' + i), 0));
        }
        PamphletQuarrel x = Picture.daily("a", text.toString(),
                quote("a", 1) + " " + quote("p", 1) + " " + quote("h", 1) + " " + quote("a b", 1));
        Check.same("the first", 0, x.comesFrom(2, 0));
        Check.same("the last", 15, x.comesFrom(2, 1));
        Check.same("one between", 7, x.comesFrom(2, 2));
        Check.same("two", -1, x.comesFrom(2, 3));
    }

    // The quotation c d e of the pamphlet 1 is its words 2 to 4.
    private static int comes(String words) {
        return Picture.daily("c d e", "a b " + quote("c d e", 0) + " f g", quote(words, 1))
                .comesFrom(2, 0);
    }

    @Says(promise = 26, value = FROM)
    private static void withinFromItsFirstToItsLastWord() {
        Check.same("all of it", 0, comes("c d e"));
        Check.same("its first word", 0, comes("c"));
        Check.same("its last word", 0, comes("e"));
        Check.same("with a change", 0, comes("c x e"));
    }

    @Says(promise = 26, value = FROM_NONE)
    private static void oneWordBeforeOrBehind() {
        Check.same("one before it", -1, comes("b"));
        Check.same("one before it with it", -1, comes("b c d e"));
        Check.same("one behind it", -1, comes("f"));
        Check.same("one behind it with it", -1, comes("c d e f"));
        Check.same("on both sides", -1, comes("b c d e f"));
        Check.same("nothing the same", -1, comes("x"));
    }

    // A withdrawn pamphlet of the same number had two quotations, the second one where c is now.
    @Says(promise = 26, value = FROM_NONE)
    private static void fromNoQuotationOfAWithdrawnOne() {
        PamphletQuarrel x = Picture.daily("a b c");
        Picture.print(x, 0, quote("a", 0) + " " + quote("b c", 0));
        x.withdraw();
        Picture.print(x, 0, quote("a", 0) + " b c");
        x.pass(1);
        Picture.print(x, 0, quote("c", 1) + " " + quote("a", 1));
        Check.same("it comes from none", -1, x.comesFrom(2, 0));
        Check.same("it comes from the first", 0, x.comesFrom(2, 1));
        Check.same("its origin", 1, x.originOf(2, 0));
    }

    @Says(promise = 26, value = FROM_NONE)
    private static void theSourceHasNoQuotations() {
        PamphletQuarrel x = Picture.daily("a", quote("a", 0));
        Check.same("it comes from none", -1, x.comesFrom(1, 0));
    }

    @Says(promise = 26, value = "Returns the quotation of its source that a quotation comes from")
    private static void errataOfTheSource() {
        PamphletQuarrel x = Picture.daily("a b x c d", "s " + quote("a b c d", 0) + " x",
                quote("x", 1));
        Check.same("behind the quotation", -1, x.comesFrom(2, 0));
        x.mend(1, 0);
        Check.same("within it", 0, x.comesFrom(2, 0));
        x.undo();
        Check.same("behind it again", -1, x.comesFrom(2, 0));
    }

    @Says(promise = 26, value = NO_QUOTATION)
    private static void noSuchComesFrom() {
        Numbers.quotations((x, pamphlet, quotation) -> x.comesFrom(pamphlet, quotation));
    }

    // ---- promises 27 to 29: originOf, traceOf and changesAtOrigin

    // Each pamphlet from the first on quotes the word a of the one before.
    private static PamphletQuarrel chain(int pamphlets) {
        PamphletQuarrel x = Picture.daily("b a");
        for (int i = 1; i < pamphlets; i++) {
            Picture.print(x, 0, quote("a", i - 1));
            x.pass(1);
        }
        return x;
    }

    @Says(promise = 27, value = ORIGIN)
    private static void theSourceItself() {
        PamphletQuarrel x = Picture.daily("a", "b " + quote("a", 0), quote("b", 1));
        Check.same("a source without quotations", 0, x.originOf(1, 0));
        Check.same("a word that is not quoted", 1, x.originOf(2, 0));
    }

    @Says(promise = 27, value = ORIGIN)
    private static void theFirstOfTwenty() {
        PamphletQuarrel x = chain(20);
        Check.same("of the last", 0, x.originOf(19, 0));
        Check.same("of the second", 0, x.originOf(1, 0));
    }

    @Says(promise = 27, value = "Returns the pamphlet")
    private static void theNineteenthOfTwenty() {
        PamphletQuarrel x = Stand.many(19);
        x.clearText();
        x.pass(1);
        Picture.print(x, 0, quote("a", 18));
        Check.same("the one before", 18, x.originOf(19, 0));
    }

    @Says(promise = 27, value = NO_QUOTATION)
    private static void noSuchOriginOf() {
        Numbers.quotations((x, pamphlet, quotation) -> x.originOf(pamphlet, quotation));
    }

    @Says(promise = 28, value = TRACE)
    private static void oneToNineteen() {
        PamphletQuarrel x = chain(20);
        for (int i = 1; i < 20; i++) {
            Check.same("of the pamphlet " + i, i, x.traceOf(i, 0));
        }
    }

    @Says(promise = 28, value = TRACE)
    private static void endsBeforeTheFirst() {
        PamphletQuarrel x =
                Picture.daily("a b", quote("a", 0) + " c", quote("c", 1), quote("c", 2));
        Check.same("itself", 1, x.traceOf(2, 0));
        Check.same("one more", 2, x.traceOf(3, 0));
        Check.same("the end of both", 1, x.originOf(3, 0));
    }

    @Says(promise = 28, value = NO_QUOTATION)
    private static void noSuchTraceOf() {
        Numbers.quotations((x, pamphlet, quotation) -> x.traceOf(pamphlet, quotation));
    }

    @Says(promise = 29, value = AT_ORIGIN)
    private static void noneToAllOfThem() {
        PamphletQuarrel x = Picture.daily("a b c", quote("a b c", 0), quote("a b c", 1));
        Check.same("none", 0, x.changesAtOrigin(2, 0));
        PamphletQuarrel y = Picture.daily("a", quote("b c d", 0), quote("b c d", 1));
        Check.same("all", 3, y.changesAtOrigin(2, 0));
        Check.same("none at its source", 0, y.changesByTable(2, 0));
    }

    @Says(promise = 29, value = AT_ORIGIN)
    private static void theSourceIsTheOrigin() {
        PamphletQuarrel x = Picture.daily("a b", quote("a", 0) + " " + quote("a x", 0),
                quote(Stand.times("c", 48), 0));
        Check.same("none", 0, x.changesAtOrigin(1, 0));
        Check.same("one", 1, x.changesAtOrigin(1, 1));
        Check.same("48", 48, x.changesAtOrigin(2, 0));
    }

    @Says(promise = 29, value = AT_ORIGIN)
    private static void fewerThanAtItsSource() {
        PamphletQuarrel x = Picture.daily("a b c d", quote("a b x", 0), quote("a b c d", 1));
        Check.same("at its source", 2, x.changesByTable(2, 0));
        Check.same("through one", 2, x.traceOf(2, 0));
        Check.same("at its origin", 0, x.changesAtOrigin(2, 0));
    }

    // The first and the last pamphlet have one word, and another one each.
    @Says(promise = 29, value = AT_ORIGIN)
    private static void theOriginIsNotTheFirstPamphlet() {
        PamphletQuarrel x = Stand.many(19);
        x.clearText();
        x.pass(1);
        Picture.print(x, 0, quote("s", 18) + " " + quote("a", 18) + " " + quote("s", 0));
        Check.same("the same word", 0, x.changesAtOrigin(19, 0));
        Check.same("the word of the first", 1, x.changesAtOrigin(19, 1));
        Check.same("the word of the last, of the first", 1, x.changesAtOrigin(19, 2));
        Check.same("the same word again", 0, x.changesAtOrigin(19, 0));
    }

    @Says(promise = 29, value = AT_ORIGIN)
    private static void throughNineteen() {
        Check.same("of the last", 0, chain(20).changesAtOrigin(19, 0));
    }

    @Says(promise = 29, value = NO_QUOTATION)
    private static void noSuchChangesAtOrigin() {
        Numbers.quotations((x, pamphlet, quotation) -> x.changesAtOrigin(pamphlet, quotation));
    }

    // ---- promise 30: quotedAgain

    @Says(promise = 30, value = AGAIN)
    private static void noneAndOne() {
        PamphletQuarrel x = Picture.daily("a b", quote("a", 0) + " " + quote("b", 0) + " c",
                quote("b", 1) + " " + quote("c", 1) + " " + quote("a b", 1) + " " + quote("a", 0));
        Check.same("none", 0, x.quotedAgain(1, 0));
        Check.same("one", 1, x.quotedAgain(1, 1));
        Check.same("of the last pamphlet", 0, x.quotedAgain(2, 0));
    }

    @Says(promise = 30, value = AGAIN)
    private static void sixteenOfOnePamphlet() {
        PamphletQuarrel x = Picture.daily("a", quote("a", 0), Stand.times(quote("a", 1), 16));
        Check.same("sixteen", 16, x.quotedAgain(1, 0));
    }

    @Says(promise = 30, value = AGAIN)
    private static void eighteenPamphlets() {
        PamphletQuarrel x = Picture.daily("a", quote("a", 0));
        for (int i = 2; i < 20; i++) {
            Check.same("before the pamphlet " + i, i - 2, x.quotedAgain(1, 0));
            Picture.print(x, 0, quote("a", 1));
        }
        Check.same("all", 18, x.quotedAgain(1, 0));
        x.withdraw();
        Check.same("the last is withdrawn", 17, x.quotedAgain(1, 0));
    }

    @Says(promise = 30, value = AGAIN)
    private static void notThroughAnotherOne() {
        PamphletQuarrel x = chain(20);
        for (int i = 1; i < 19; i++) {
            Check.same("of the pamphlet " + i, 1, x.quotedAgain(i, 0));
        }
        Check.same("of the last", 0, x.quotedAgain(19, 0));
    }

    @Says(promise = 30, value = NO_QUOTATION)
    private static void noSuchQuotedAgain() {
        Numbers.quotations((x, pamphlet, quotation) -> x.quotedAgain(pamphlet, quotation));
    }
}
