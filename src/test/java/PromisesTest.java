/** Each promise of the document with ordinary inputs, its edges and wrong inputs. */
public final class PromisesTest {
    private static final Class<IllegalArgumentException> ARGUMENT = IllegalArgumentException.class;
    private static final Class<IllegalStateException> STATE = IllegalStateException.class;
    private static final Class<IndexOutOfBoundsException> INDEX = IndexOutOfBoundsException.class;
    private static final int LOWEST = Integer.MIN_VALUE;
    private static final int HIGHEST = Integer.MAX_VALUE;

    private static final String KING = "the king is a good king";

    // Of these words the 22 that are not x, quoted, have a passage of 32 words.
    private static final String SPACED =
            "a b x c d x e f x g h x i j x k l x m n x o p x q r x s t x u v";

    private PromisesTest() {
    }

    public static void main(String[] args) {
        changes();
        pamphlets();
        quotations();
        blame();
        laddersAndReading();
        glossary();
        buffer();
        undoAndSnapshot();
        Check.end();
    }

    private static void changes() {
        promise1();
        promise2();
        promise2Refuses();
        promise3();
        promise4();
        promise4MovesTheWords();
        promise4Refuses();
        promise4Limit();
        promise4AtTheLimit();
        promise5();
        promise5InTurn();
        promise5Limit();
        promise6();
        promise6LeavesNothing();
    }

    private static void pamphlets() {
        promises7And8();
        promises9And10();
        promise11();
        promises12And13();
        promise14();
        promise15();
        promise16();
        promise16Order();
    }

    private static void quotations() {
        promises17To20();
        promises21To24();
        promises21To24Ties();
        promises21To24LongTexts();
        promises23To29OneByOne();
        promise25();
        promise26();
        promises27To29();
        promise30();
    }

    private static void blame() {
        promises31To34();
        promise35();
    }

    private static void laddersAndReading() {
        promise36();
        promises37To40();
        promises37And38TheMost();
    }

    private static void glossary() {
        promises41To43();
        promises41To43AfterErrata();
        promises41To43ManyWords();
    }

    private static void buffer() {
        promise44();
        promise45();
        promise46();
    }

    private static void undoAndSnapshot() {
        promise47();
        promise47EachKind();
        promise48();
        promises49And50();
        promise50AndUndo();
        promises47And50TheFirst();
    }

    private static String lettersOf(int count, String separator) {
        StringBuilder letters = new StringBuilder();
        for (int i = 0; i < count; i++) {
            letters.append(i == 0 ? "" : separator).append((char) ('a' + i));
        }
        return letters.toString();
    }

    private static String quoteOf(int count, int source) {
        return "\"" + lettersOf(count, " ") + "\"@" + source;
    }

    // ---- changes

    private static void promise1() {
        PamphletQuarrel x = new PamphletQuarrel();
        Check.same("1: pamphlets", 0, x.pamphlets());
        Check.same("1: day", 0, x.day());
        Check.same("1: saved", 0, x.savedStates());
        Check.same("1: the buffer", 0, x.clearText());
        Check.same("1: glossary", 0, x.glossary());
        Check.refuses("1: no snapshot", STATE, x, x::restoreSnapshot);
        Check.refuses("1: nothing to undo", STATE, x, x::undo);
        Picture.print(x, 0, "a");
        x.pass(3);
        Check.same("1: another one", "day 0, saved 0, buffer 0 2",
                Picture.of(new PamphletQuarrel()));
    }

    private static void promise2() {
        PamphletQuarrel x = new PamphletQuarrel();
        Check.same("2: the first", 0, Picture.print(x, 7, "a abcdefg"));
        Check.same("2: the buffer is empty", 0, x.clearText());
        Check.same("2: saved", 1, x.savedStates());
        Check.same("2: the second, of the same day", 1, Picture.print(x, 0, "z"));
        x.pass(2);
        Check.same("2: the third", 2, Picture.print(x, 3, "b \"a b\"@0 c \"zz\"@1"));
        Check.same("2: all", "day 2, saved 4, buffer 0 2; 7 on 0: a abcdefg; 0 on 0: z;"
                + " 3 on 2: b a b c zz [@0 1+2] [@1 4+1]", Picture.of(x));
        Check.same("2: undo", 3, x.undo());
        Check.same("2: undone, and the buffer stays empty",
                "day 2, saved 3, buffer 0 2; 7 on 0: a abcdefg; 0 on 0: z", Picture.of(x));
        Check.same("2: the number again", 2, Picture.print(x, 1, "c"));
        Check.same("2: without the quotations from before", 0, x.quotationsOf(2));
    }

    private static void promise2Refuses() {
        PamphletQuarrel x = Picture.type(Picture.daily("a"), "b");
        for (int author : new int[] {-1, 8, LOWEST, HIGHEST}) {
            Check.refuses("2: author " + author, ARGUMENT, x, () -> x.print(author));
        }
        Check.same("2: the buffer is as before", 1, x.clearText());
        Check.refuses("2: an empty buffer", STATE, x, () -> x.print(0));
        Check.refuses("2: the author first", ARGUMENT, x, () -> x.print(8));
        Picture.type(x, "a ");
        Check.refuses("2: not a text", STATE, x, () -> x.print(0));
        x.clearText();
        Picture.type(x, "\"a\"@1");
        Check.refuses("2: no such source", STATE, x, () -> x.print(0));
        x.clearText();
        Picture.print(x, 0, "b");
        Picture.type(x, "\"a\"@1");
        Check.refuses("2: a source of this day", STATE, x, () -> x.print(0));
        Check.same("2: the buffer is as before", 5, x.clearText());
        PamphletQuarrel y = new PamphletQuarrel();
        for (int i = 0; i < 20; i++) {
            Check.same("2: number", i, Picture.print(y, 0, "a"));
        }
        y.append('a');
        Check.refuses("2: the 21st", STATE, y, () -> y.print(0));
        Check.same("2: 20 pamphlets", 20, y.pamphlets());
    }

    private static void promise3() {
        PamphletQuarrel x = new PamphletQuarrel();
        Check.same("3: one day", 1, x.pass(1));
        Check.same("3: a hundred", 101, x.pass(100));
        Check.same("3: day", 101, x.day());
        for (int days : new int[] {0, -1, 101, LOWEST, HIGHEST}) {
            Check.refuses("3: days " + days, ARGUMENT, x, () -> x.pass(days));
        }
        x.undo();
        Check.same("3: undone", 1, x.day());
    }

    private static void promise4() {
        PamphletQuarrel x = Picture.daily(KING, "he says \"king is a bad king\"@0 now",
                "\"a bad\"@1 \"bad king now\"@1 \"king\"@0");
        Check.same("4: changes", 1, x.mend(1, 0));
        Check.same("4: the words", "he says king is a good king now", Picture.words(x, 1));
        Check.same("4: faithful", 0, x.changesByTable(1, 0));
        Check.same("4: what quotes it", "1 1 at 4+1", Picture.passage(x, 2, 0));
        Check.same("4: its words stay", "a bad bad king now king", Picture.words(x, 2));
        Check.same("4: saved", 5, x.savedStates());
        x.undo();
        Check.same("4: undone", "he says king is a bad king now", Picture.words(x, 1));
        Check.same("4: what quotes it, undone", "0 0 at 4+2", Picture.passage(x, 2, 0));
    }

    private static void promise4MovesTheWords() {
        PamphletQuarrel x = Picture.daily("a b c d e f g",
                "s \"a c\"@0 t \"d z z z e\"@0 u \"f q\"@0 v");
        Check.same("4: longer", 1, x.mend(1, 0));
        Check.same("4: longer words", "s a t d z z z e u f q v", Picture.words(x, 1));
        x = Picture.daily("b a x b c d e f g",
                "s \"a b c d\"@0 t \"d z z z e\"@0 u \"f q\"@0 v");
        Check.same("4: one more", 1, x.mend(1, 0));
        Check.same("4: a word is put in", "s a x b c d t d z z z e u f q v", Picture.words(x, 1));
        Check.same("4: it is longer", "@0 1+5", Picture.quotation(x, 1, 0));
        Check.same("4: the next moves", "@0 7+5", Picture.quotation(x, 1, 1));
        Check.same("4: the last moves", "@0 13+2", Picture.quotation(x, 1, 2));
        Check.same("4: shorter", 3, x.mend(1, 1));
        Check.same("4: words are left out", "s a x b c d t d e u f q v", Picture.words(x, 1));
        Check.same("4: the one before stays", "@0 1+5", Picture.quotation(x, 1, 0));
        Check.same("4: it is shorter", "@0 7+2", Picture.quotation(x, 1, 1));
        Check.same("4: the last moves back", "@0 10+2", Picture.quotation(x, 1, 2));
        Check.same("4: the shortest of several", 1, x.mend(1, 2));
        Check.same("4: one is left out", "s a x b c d t d e u f v", Picture.words(x, 1));
        x = Picture.daily("a b", "\"a z\"@0");
        x.mend(1, 0);
        Check.same("4: nothing behind it", "a", Picture.words(x, 1));
    }

    private static void promise4Refuses() {
        PamphletQuarrel x = Picture.daily("a b", "\"a\"@0 \"b\"@0");
        Check.refuses("4: faithful", STATE, x, () -> x.mend(1, 1));
        PamphletQuarrel y = Picture.daily("a b", "\"c\"@0");
        y.mend(1, 0);
        Check.refuses("4: twice", STATE, y, () -> y.mend(1, 0));
    }

    private static void promise4Limit() {
        String rest = " z z z z z z z z z z z z z z";
        PamphletQuarrel x = Picture.daily(SPACED, quoteOf(22, 0) + " " + quoteOf(10, 0) + rest);
        Check.same("4: before", 46, x.wordsOf(1));
        Check.same("4: eleven pairs, ten x between", 10, x.mend(1, 0));
        Check.same("4: then", 56, x.wordsOf(1));
        Check.same("4: five pairs, four x between", 4, x.mend(1, 1));
        Check.same("4: 60 words are not too many", 60, x.wordsOf(1));
        Check.same("4: the last word", "z", Picture.word(x, 1, 59));
        Check.refuses("4: no word 60", INDEX, () -> x.letterOf(1, 60, 0));
        Check.same("4: pages", 8, x.pagesOf(1));
        PamphletQuarrel y = Picture.daily(SPACED,
                quoteOf(22, 0) + " " + quoteOf(12, 0) + rest.substring(4));
        Check.same("4: before", 46, y.wordsOf(1));
        y.mend(1, 0);
        Check.refuses("4: 61 words are too many", STATE, () -> y.mend(1, 1));
        Check.same("4: no more words", 56, y.wordsOf(1));
        Check.same("4: its changes all the same", 5, y.changesByTable(1, 1));
    }

    private static void promise4AtTheLimit() {
        PamphletQuarrel x = Picture.daily(SPACED,
                quoteOf(22, 0) + " \"z z\"@0 " + quoteOf(14, 0) + " z z z z z y");
        x.mend(1, 0);
        x.mend(1, 2);
        Check.same("4: sixty words", 60, x.wordsOf(1));
        Picture.print(x, 0, "\"z y\"@1 \"z z\"@1");
        Check.same("23 and 24: the end of sixty words", "0 0 at 58+2", Picture.passage(x, 2, 0));
        Check.same("23 and 24: not the end", "0 0 at 32+2", Picture.passage(x, 2, 1));
        Check.same("25: the last page", 7, x.pageOf(2, 0));
        Check.same("4: shorter again", 2, x.mend(1, 1));
        Check.same("4: 59 words", 59, x.wordsOf(1));
        Check.same("4: the last word moves", "y", Picture.word(x, 1, 58));
        Check.same("4: the next quotation moves", "@0 33+20", Picture.quotation(x, 1, 2));
        Check.same("23 and 24: the end moves", "0 0 at 57+2", Picture.passage(x, 2, 0));
    }

    private static void promise5() {
        PamphletQuarrel x = new PamphletQuarrel();
        Check.same("5: nothing to mend", 0, x.mendAll());
        Check.same("5: undoable all the same", 1, x.savedStates());
        x = Picture.daily(KING, "\"king was\"@0 \"good\"@0 \"a god king\"@0");
        Check.same("5: two of three", 2, x.mendAll());
        Check.same("5: the words", "king good a good king", Picture.words(x, 1));
        Check.same("5: saved as one", 5, x.savedStates());
        x.undo();
        Check.same("5: undone as one", "king was good a god king", Picture.words(x, 1));
        Check.same("5: the day stays", 2, x.day());
    }

    private static void promise5InTurn() {
        PamphletQuarrel x = Picture.daily("a b c", "\"a z c\"@0 y", "\"a z c\"@1", "\"z y\"@1");
        Check.same("5: the later ones are mended by mended words", 3, x.mendAll());
        Check.same("5: the first", "a b c y", Picture.words(x, 1));
        Check.same("5: the second", "a b c", Picture.words(x, 2));
        Check.same("5: the third", "c y", Picture.words(x, 3));
        Check.same("5: all are faithful", 1.0, x.faithfulShare());
        Check.same("5: none is left", 0, x.mendAll());
        x = Picture.daily("a b c", "\"a z\"@0", "\"a\"@1");
        Check.same("5: the faithful stay", 1, x.mendAll());
    }

    private static void promise5Limit() {
        PamphletQuarrel x = Picture.daily(SPACED,
                quoteOf(20, 0) + " " + quoteOf(20, 0) + " \"z z z\"@0");
        Check.same("5: words", 43, x.wordsOf(1));
        Check.same("5: the second has no room at its turn", 2, x.mendAll());
        Check.same("5: words then", 50, x.wordsOf(1));
        Check.same("5: it is as before", "9 9 at 0+29", Picture.passage(x, 1, 1));
        Check.same("5: it has room now", 1, x.mendAll());
        Check.same("5: words at last", 59, x.wordsOf(1));
        Check.same("5: nothing is left", 0, x.mendAll());
    }

    private static void promise6() {
        PamphletQuarrel x = new PamphletQuarrel();
        Check.refuses("6: there are none", STATE, x, x::withdraw);
        Picture.print(x, 1, "a b");
        Picture.print(x, 2, "c");
        Check.same("6: one is left", 1, x.withdraw());
        Check.same("6: it is gone", "day 0, saved 3, buffer 0 2; 1 on 0: a b", Picture.of(x));
        x.undo();
        Check.same("6: it is back", "day 0, saved 2, buffer 0 2; 1 on 0: a b; 2 on 0: c",
                Picture.of(x));
        x.pass(1);
        Check.refuses("6: of yesterday", STATE, x, x::withdraw);
        Picture.print(x, 3, "\"a\"@0");
        Check.same("6: of today", 2, x.withdraw());
        Check.refuses("6: the one before it is of yesterday", STATE, x, x::withdraw);
        Check.same("6: nothing quotes any more", 0.0, x.faithfulShare());
        Check.same("6: the number is free", 2, Picture.print(x, 0, "d"));
        x = new PamphletQuarrel();
        Picture.print(x, 1, "a");
        Check.same("6: the last one", 0, x.withdraw());
        PamphletQuarrel empty = x;
        Check.refuses("6: none are left", STATE, empty, empty::withdraw);
    }

    private static void promise6LeavesNothing() {
        PamphletQuarrel x = Picture.daily("a b", "\"a\"@0");
        Picture.print(x, 0, "\"a\"@1 b");
        x.withdraw();
        Runnable[] calls = {() -> x.authorOf(2), () -> x.dayOf(2), () -> x.wordsOf(2),
            () -> x.pagesOf(2), () -> x.wordsOn(2, 0), () -> x.letterOf(2, 0, 0),
            () -> x.isSameWord(2, 0, 0, 0), () -> x.isSameWord(0, 0, 2, 0),
            () -> x.quotationsOf(2), () -> x.sourceOf(2, 0), () -> x.beginOf(2, 0),
            () -> x.lengthOf(2, 0), () -> x.changesByTable(2, 0), () -> x.changesByPassages(2, 0),
            () -> x.passageOf(2, 0), () -> x.passageLength(2, 0), () -> x.pageOf(2, 0),
            () -> x.comesFrom(2, 0), () -> x.originOf(2, 0), () -> x.traceOf(2, 0),
            () -> x.changesAtOrigin(2, 0), () -> x.quotedAgain(2, 0), () -> x.answers(2, 0),
            () -> x.answers(0, 2), () -> x.ladderOf(2), () -> x.laddersOf(2),
            () -> x.readingOf(2), () -> x.readAt(2, 0), () -> x.mend(2, 0)};
        for (int i = 0; i < calls.length; i++) {
            Check.refuses("6: withdrawn, call " + i, INDEX, calls[i]);
        }
        Check.same("30: withdrawn", 0, x.quotedAgain(1, 0));
        Check.same("41 to 43: withdrawn", "a2 b1", Picture.glossary(x));
    }

    // ---- pamphlets

    private static void promises7And8() {
        PamphletQuarrel x = new PamphletQuarrel();
        x.pass(40);
        x.pass(60);
        Check.same("7: day", 100, x.day());
        Check.same("8: none", 0, x.pamphlets());
        Picture.print(x, 0, "a");
        Picture.print(x, 0, "a");
        Check.same("8: two", 2, x.pamphlets());
        Check.same("7: printing takes no day", 100, x.day());
        x.undo();
        Check.same("8: one", 1, x.pamphlets());
    }

    private static void promises9And10() {
        PamphletQuarrel x = new PamphletQuarrel();
        Picture.print(x, 7, "a");
        x.pass(100);
        Picture.print(x, 0, "b");
        x.pass(1);
        Picture.print(x, 4, "c");
        Check.same("9: the first", 7, x.authorOf(0));
        Check.same("9: the second", 0, x.authorOf(1));
        Check.same("9: the third", 4, x.authorOf(2));
        Check.same("10: the first", 0, x.dayOf(0));
        Check.same("10: the second", 100, x.dayOf(1));
        Check.same("10: the third", 101, x.dayOf(2));
        x.withdraw();
        Check.refuses("9: withdrawn", INDEX, () -> x.authorOf(2));
        Check.refuses("10: withdrawn", INDEX, () -> x.dayOf(2));
    }

    private static void promise11() {
        PamphletQuarrel x = Picture.daily("a", "abcdefg a abc", "\"a b c\"@0 d \"e\"@1");
        Check.same("11: one", 1, x.wordsOf(0));
        Check.same("11: three", 3, x.wordsOf(1));
        Check.same("11: those of quotations too", 5, x.wordsOf(2));
        PamphletQuarrel y = Picture.daily("a" + " b".repeat(49));
        Check.same("11: fifty", 50, y.wordsOf(0));
    }

    private static void promises12And13() {
        PamphletQuarrel x = Picture.daily("a", "a b c d e f g h", "a b c d e f g h i",
                "a b c d e f g \"h i j k l m n o p q\"@0");
        Check.same("12: one word", 1, x.pagesOf(0));
        Check.same("12: 8 words", 1, x.pagesOf(1));
        Check.same("12: 9 words", 2, x.pagesOf(2));
        Check.same("12: 17 words", 3, x.pagesOf(3));
        Check.same("13: one word", 1, x.wordsOn(0, 0));
        Check.same("13: 8 words", 8, x.wordsOn(1, 0));
        Check.same("13: 9 words, the first page", 8, x.wordsOn(2, 0));
        Check.same("13: 9 words, the second page", 1, x.wordsOn(2, 1));
        Check.same("13: 17 words, the second page", 8, x.wordsOn(3, 1));
        Check.refuses("13: page 2 of 9 words", INDEX, () -> x.wordsOn(2, 2));
    }

    private static void promise14() {
        PamphletQuarrel x = Picture.daily("abcdefg z", "\"zy xw\"@0");
        Check.same("14: the first letter", (int) 'a', x.letterOf(0, 0, 0));
        Check.same("14: the seventh letter", (int) 'g', x.letterOf(0, 0, 6));
        for (int index : new int[] {7, 8, 64, HIGHEST}) {
            Check.same("14: behind seven", -1, x.letterOf(0, 0, index));
        }
        Check.same("14: z", (int) 'z', x.letterOf(0, 1, 0));
        for (int index : new int[] {1, 6, 7, HIGHEST}) {
            Check.same("14: behind one", -1, x.letterOf(0, 1, index));
        }
        Check.same("14: in a quotation", (int) 'w', x.letterOf(1, 1, 1));
    }

    private static void promise15() {
        PamphletQuarrel x = Picture.daily("abcdefg ab abcdefg b", "\"ab abcdeff\"@0 abcdefg");
        Check.same("15: itself", true, x.isSameWord(0, 1, 0, 1));
        Check.same("15: in the same one", true, x.isSameWord(0, 0, 0, 2));
        Check.same("15: another one", true, x.isSameWord(0, 2, 1, 2));
        Check.same("15: in a quotation", true, x.isSameWord(1, 0, 0, 1));
        Check.same("15: the seventh letter", false, x.isSameWord(0, 0, 1, 1));
        Check.same("15: the beginning only", false, x.isSameWord(0, 0, 0, 1));
        Check.same("15: the end only", false, x.isSameWord(0, 1, 0, 3));
        Check.refuses("15: a word of the other one only", INDEX, () -> x.isSameWord(1, 3, 0, 3));
    }

    private static void why(int due, PamphletQuarrel x, String text) {
        x.clearText();
        Picture.type(x, text);
        Check.same("16: " + text, due, x.whyNotPrinted());
        Check.same("16: the buffer stays: " + text, text.length(), x.clearText());
    }

    private static void promise16() {
        PamphletQuarrel x = Picture.daily("a", "b");
        why(2, x, "");
        why(2, x, "a ");
        why(2, x, "a  b");
        why(2, x, "\"a");
        why(2, x, "\"a\"");
        why(2, x, "\"a\"@");
        why(2, x, "\"a\"@0 ");
        why(2, x, "A");
        why(0, x, "a");
        why(0, x, "\"a\"@0");
        why(0, x, "\"a\"@1 b");
        why(3, x, "\"a\"@2");
        why(3, x, "\"a\"@10");
        why(3, x, "\"a\"@0 \"a\"@19 \"a\"@1");
        Picture.print(x, 0, "c");
        why(4, x, "\"a\"@2");
        why(4, x, "\"a\"@0 \"a\"@2 \"a\"@1");
        why(0, x, "\"a\"@0 \"a\"@1");
        x.pass(1);
        why(0, x, "\"a\"@2");
        x.undo();
        why(4, x, "\"a\"@2");
    }

    private static void promise16Order() {
        PamphletQuarrel x = new PamphletQuarrel();
        for (int i = 0; i < 19; i++) {
            Picture.print(x, 0, "a");
        }
        why(2, x, "\"a\"@19 ");
        why(2, x, "\"a\"@0 ");
        why(3, x, "\"a\"@19");
        why(3, x, "\"a\"@0 \"a\"@19");
        why(4, x, "\"a\"@18");
        x.pass(1);
        why(0, x, "\"a\"@18");
        Picture.print(x, 0, "a");
        why(1, x, "");
        why(1, x, "a");
        why(1, x, "\"a\"@19");
        x.withdraw();
        why(0, x, "a");
    }

    // ---- quotations

    private static void promises17To20() {
        PamphletQuarrel x = Picture.daily("a", "b", "c \"d e\"@1 \"f\"@0 g h \"i j k\"@1",
                "\"l\"@2" + " \"l\"@0".repeat(15) + " l");
        Check.same("17: none", 0, x.quotationsOf(0));
        Check.same("17: three", 3, x.quotationsOf(2));
        Check.same("17: sixteen", 16, x.quotationsOf(3));
        Check.same("18 to 20: the first", "@1 1+2", Picture.quotation(x, 2, 0));
        Check.same("18 to 20: the second", "@0 3+1", Picture.quotation(x, 2, 1));
        Check.same("18 to 20: the third", "@1 6+3", Picture.quotation(x, 2, 2));
        Check.same("18 to 20: the first word", "@2 0+1", Picture.quotation(x, 3, 0));
        Check.same("18 to 20: the sixteenth", "@0 15+1", Picture.quotation(x, 3, 15));
        Check.refuses("18: sixteen", INDEX, () -> x.sourceOf(3, 16));
        promise18TwoDigits();
    }

    private static void promise18TwoDigits() {
        PamphletQuarrel x = new PamphletQuarrel();
        for (int i = 0; i < 19; i++) {
            Picture.print(x, 0, "a");
        }
        x.pass(1);
        Picture.print(x, 0, "\"a\"@18 \"a\"@10 \"a\"@1 \"a\"@9 \"a\"@0");
        int[] sources = {18, 10, 1, 9, 0};
        for (int i = 0; i < sources.length; i++) {
            Check.same("18: source", sources[i], x.sourceOf(19, i));
        }
    }

    private static void passage(String due, String source, String quotation) {
        PamphletQuarrel x = Picture.daily(source, "\"" + quotation + "\"@0");
        Check.same("21 to 24: " + quotation + " of " + source, due, Picture.passage(x, 1, 0));
    }

    private static void promises21To24() {
        passage("0 0 at 0+1", "a", "a");
        passage("1 1 at 0+1", "a", "b");
        passage("2 2 at 0+1", "a", "b a c");
        passage("0 0 at 2+3", "a b c d e", "c d e");
        passage("1 1 at 1+5", KING, "king is a bad king");
        passage("1 1 at 0+1", "a b c", "a c");
        passage("1 1 at 1+5", "x a b c d e", "a b d e");
        passage("1 1 at 1+3", "x a b c y", "a b z c");
        passage("2 2 at 0+4", "a b c d e", "z b c d z");
        passage("0 0 at 0+7", "abcdefg b c d e f z", "abcdefg b c d e f z");
    }

    private static void promises21To24Ties() {
        passage("0 0 at 1+1", "b a b a", "a");
        passage("1 1 at 0+1", "b c d", "a");
        passage("3 3 at 0+1", "a b c d", "z z z");
        passage("1 1 at 0+2", "a b c d", "b b");
        passage("1 1 at 2+1", "x y a b", "a c");
        passage("1 1 at 0+2", "x a y a", "z a");
        passage("0 0 at 1+2", "a a b a b", "a b");
        passage("1 1 at 0+2", "a c b a b b", "a b c");
        passage("2 2 at 0+1", "a x b x c", "a b c");
    }

    private static void promises21To24LongTexts() {
        PamphletQuarrel x = Picture.daily("z" + " z".repeat(48) + " y",
                "\"" + "z ".repeat(46) + "y\"@0", "\"" + "y ".repeat(46) + "y\"@0");
        Check.same("21 to 24: the end of fifty words", "0 0 at 3+47", Picture.passage(x, 1, 0));
        Check.same("21 to 24: one of many", "46 46 at 3+47", Picture.passage(x, 2, 0));
        x.mendAll();
        Check.same("21 to 24: mended", "0 0 at 3+47", Picture.passage(x, 2, 0));
    }

    // Each call by itself, with calls about other quotations between.
    private static void promises23To29OneByOne() {
        PamphletQuarrel x = Picture.daily("a b c d e f g h i j", "k \"i j\"@0 \"b\"@0", "\"j\"@1");
        Check.same("23: the first", 8, x.passageOf(1, 0));
        Check.same("23: the second", 1, x.passageOf(1, 1));
        Check.same("24: the first", 2, x.passageLength(1, 0));
        Check.same("24: the second", 1, x.passageLength(1, 1));
        Check.same("25: the first", 1, x.pageOf(1, 0));
        Check.same("25: the second", 0, x.pageOf(1, 1));
        Check.same("27: of another one", 0, x.originOf(2, 0));
        Check.same("28: the first", 1, x.traceOf(1, 0));
        Check.same("28: of another one", 2, x.traceOf(2, 0));
        Check.same("29: the first", 0, x.changesAtOrigin(1, 0));
        Check.same("23: after others", 1, x.passageOf(1, 1));
        Check.same("27: after others", 0, x.originOf(1, 1));
        Picture.print(x, 0, "\"k\"@1 \"j\"@1");
        Check.same("27: itself", 1, x.originOf(3, 0));
        Check.same("27: its source's source", 0, x.originOf(3, 1));
        Check.same("27: itself again", 1, x.originOf(3, 0));
        Check.same("29: through one", 0, x.changesAtOrigin(3, 1));
        Check.same("29: itself", 0, x.changesAtOrigin(3, 0));
    }

    private static void promise25() {
        PamphletQuarrel x = Picture.daily("a b c d e f g h i j k l m n o p q",
                "\"h i\"@0 \"i\"@0 \"p q\"@0 \"q\"@0 \"a\"@0 \"zz\"@0");
        int[] pages = {0, 1, 1, 2, 0, 0};
        for (int i = 0; i < pages.length; i++) {
            Check.same("25: page", pages[i], x.pageOf(1, i));
        }
    }

    private static void promise26() {
        PamphletQuarrel x = Picture.daily("a b c d e f",
                "s \"a b c\"@0 t \"d e\"@0 \"f\"@0 u",
                "\"a\"@1 \"a b c\"@1 \"b c\"@1 \"s a\"@1 \"c t\"@1 \"d e\"@1 \"e f\"@1 \"f\"@1"
                + " \"t\"@1 \"f u\"@1");
        int[] from = {0, 0, 0, -1, -1, 1, -1, 2, -1, -1};
        for (int i = 0; i < from.length; i++) {
            Check.same("26: quotation " + i, from[i], x.comesFrom(2, i));
        }
        Check.same("26: the source quotes none", -1, x.comesFrom(1, 0));
        PamphletQuarrel y = Picture.daily("a b c", "b \"b b c\"@0", "\"b\"@1 \"b c z\"@1 \"z\"@1");
        Check.same("26: the passage that begins first", -1, y.comesFrom(2, 0));
        Check.same("26: an unfaithful one", 0, y.comesFrom(2, 1));
        Check.same("26: nothing but changes", -1, y.comesFrom(2, 2));
    }

    private static void promises27To29() {
        PamphletQuarrel x = Picture.daily("a b c d e", "p \"b c d\"@0", "q q \"b x d\"@1",
                "\"x d\"@2 \"q b\"@2 \"d\"@0");
        String[] due = {"0 3 1", "2 1 0", "0 1 0"};
        for (int i = 0; i < due.length; i++) {
            Check.same("27 to 29: quotation " + i, due[i], x.originOf(3, i) + " "
                    + x.traceOf(3, i) + " " + x.changesAtOrigin(3, i));
        }
        Check.same("27: through one", 0, x.originOf(2, 0));
        Check.same("28: through one", 2, x.traceOf(2, 0));
        Check.same("28: through none", 1, x.traceOf(1, 0));
        Check.same("29: through one", 1, x.changesAtOrigin(2, 0));
        promises27To29Longest();
        promise29AnyPassage();
    }

    private static void promises27To29Longest() {
        PamphletQuarrel x = Picture.daily("b a");
        for (int i = 0; i < 19; i++) {
            Picture.print(x, 0, "\"a\"@" + i);
            x.pass(1);
        }
        Check.same("27: through nineteen", 0, x.originOf(19, 0));
        Check.same("28: through nineteen", 19, x.traceOf(19, 0));
        Check.same("29: through nineteen", 0, x.changesAtOrigin(19, 0));
        Check.same("30: the last one", 0, x.quotedAgain(19, 0));
        Check.same("37: all twenty", 20, x.ladderOf(19));
        Check.same("38: all twenty", 1, x.laddersOf(19));
        Check.same("39: all twenty", 20, x.readingOf(19));
        Check.same("40: the first of twenty", 0, x.readAt(19, 0));
        Check.same("40: the last of twenty", 19, x.readAt(19, 19));
        Check.refuses("40: one behind twenty", INDEX, () -> x.readAt(19, 20));
    }

    private static void promise29AnyPassage() {
        PamphletQuarrel x = Picture.daily("x y b c", "\"y z\"@0", "\"y z\"@1", "\"b c\"@1");
        Check.same("29: fewer than at its source", 2, x.changesByTable(3, 0));
        Check.same("29: its origin", 0, x.originOf(3, 0));
        Check.same("29: another passage of the origin", 0, x.changesAtOrigin(3, 0));
        Check.same("29: more than at its source", 1, x.changesAtOrigin(2, 0));
        Check.same("29: none at its source", 0, x.changesByTable(2, 0));
    }

    private static void promise30() {
        PamphletQuarrel x = Picture.daily("a b c d", "\"a b\"@0 \"c d\"@0",
                "\"a\"@1 \"b c\"@1 \"c\"@1 \"a b\"@0", "\"d\"@1 \"c z\"@1 \"a\"@2");
        Check.same("30: quoted once", 1, x.quotedAgain(1, 0));
        Check.same("30: quoted by two pamphlets", 3, x.quotedAgain(1, 1));
        Check.same("30: through another one", 1, x.quotedAgain(2, 0));
        Check.same("30: quoted by none", 0, x.quotedAgain(2, 1));
        Check.same("30: printed last", 0, x.quotedAgain(3, 0));
    }

    // ---- blame

    private static void promises31To34() {
        PamphletQuarrel x = new PamphletQuarrel();
        Check.same("33: nothing", 0, x.blameByAuthors());
        Check.same("34: nothing", 0, x.blameBySources());
        Picture.print(x, 0, "a b c");
        Picture.print(x, 7, "d e f");
        x.pass(1);
        Picture.print(x, 7, "\"a x\"@0 \"y y y\"@1");
        Picture.print(x, 0, "\"d z f\"@1 \"e\"@1 \"w\"@0");
        x.pass(1);
        Picture.print(x, 7, "\"a v y v\"@2");
        Check.same("31: the author 0", 2, x.blameOf(0));
        Check.same("31: the author 7", 6, x.blameOf(7));
        Check.same("31: the author 3", 0, x.blameOf(3));
        Check.same("32: 0 of himself", 1, x.wrongs(0, 0));
        Check.same("32: 0 of 7", 1, x.wrongs(0, 7));
        Check.same("32: 7 of 0", 1, x.wrongs(7, 0));
        Check.same("32: 7 of himself", 5, x.wrongs(7, 7));
        Check.same("32: 7 of 3", 0, x.wrongs(7, 3));
        Check.same("33: all", 8, x.blameByAuthors());
        Check.same("34: all", 8, x.blameBySources());
        x.mendAll();
        Check.same("33: mended", 0, x.blameByAuthors());
        Check.same("34: mended", 0, x.blameBySources());
    }

    private static void promise35() {
        PamphletQuarrel x = Picture.daily("a b c");
        Check.same("35: without quotations", 0.0, x.faithfulShare());
        Picture.print(x, 0, "\"z\"@0");
        Check.same("35: none", 0.0, x.faithfulShare());
        Picture.print(x, 0, "\"a b\"@0 \"a c\"@0");
        Check.same("35: a third", 1.0 / 3.0, x.faithfulShare());
        x.mend(1, 0);
        Check.same("35: two thirds", 2.0 / 3.0, x.faithfulShare());
        x.mendAll();
        Check.same("35: all", 1.0, x.faithfulShare());
    }

    // ---- ladders and reading

    private static void promise36() {
        PamphletQuarrel x = Picture.daily("a", "\"a\"@0 \"b\"@0", "\"a\"@1");
        Check.same("36: it does", true, x.answers(1, 0));
        Check.same("36: not the other way", false, x.answers(0, 1));
        Check.same("36: not through another one", false, x.answers(2, 0));
        Check.same("36: the last one", true, x.answers(2, 1));
        Check.same("36: not itself", false, x.answers(1, 1));
    }

    private static String ladders(PamphletQuarrel x, int pamphlet) {
        StringBuilder told = new StringBuilder();
        told.append(x.ladderOf(pamphlet)).append(' ').append(x.laddersOf(pamphlet)).append(':');
        for (int i = 0; i < x.readingOf(pamphlet); i++) {
            told.append(' ').append(x.readAt(pamphlet, i));
        }
        return told.toString();
    }

    private static void promises37To40() {
        PamphletQuarrel x = Picture.daily("a", "b", "\"a\"@0", "\"a\"@2 \"b\"@1 \"a\"@2", "c",
                "\"a\"@3 \"a\"@0 \"a\"@2");
        String[] due = {"1 1: 0", "1 1: 1", "2 1: 0 2", "3 2: 0 1 2 3", "1 1: 4", "4 4: 0 1 2 3 5"};
        for (int i = 0; i < due.length; i++) {
            Check.same("37 to 40: " + i, due[i], ladders(x, i));
        }
        Check.refuses("40: place", INDEX, () -> x.readAt(4, 1));
    }

    private static void promises37And38TheMost() {
        PamphletQuarrel x = Picture.daily("a");
        for (int i = 1; i < 9; i++) {
            StringBuilder text = new StringBuilder();
            for (int source = 0; source < i; source++) {
                text.append(source == 0 ? "" : " ").append("\"a\"@").append(source);
            }
            Picture.print(x, 0, text.toString());
            x.pass(1);
        }
        Check.same("37: each answers all", 9, x.ladderOf(8));
        Check.same("38: each answers all", 128, x.laddersOf(8));
        Check.same("39: each answers all", 9, x.readingOf(8));
        Check.same("40: the last is itself", 8, x.readAt(8, 8));
    }

    // ---- the glossary

    private static void promises41To43() {
        PamphletQuarrel x = new PamphletQuarrel();
        Check.same("41: none", 0, x.glossary());
        Check.refuses("42: none", INDEX, x, () -> x.timesOf(0));
        Check.refuses("43: none", INDEX, x, () -> x.glossaryLetter(0, 0));
        Picture.print(x, 0, "b ab zz abc b a");
        x.pass(1);
        Picture.print(x, 1, "\"zz\"@0 abcdefg zz ba");
        Check.same("41: different words", 7, x.glossary());
        Check.same("41 to 43: all", "zz3 b2 a1 ab1 abc1 abcdefg1 ba1", Picture.glossary(x));
        Check.same("43: behind the end", -1, x.glossaryLetter(2, 1));
        Check.same("43: behind seven", -1, x.glossaryLetter(5, 7));
        Check.same("43: far behind", -1, x.glossaryLetter(5, HIGHEST));
    }

    private static void promises41To43AfterErrata() {
        PamphletQuarrel x = Picture.daily("a b", "\"c b\"@0 \"c\"@0");
        Check.same("41 to 43: before", "b2 c2 a1", Picture.glossary(x));
        x.mendAll();
        Check.same("41 to 43: after", "a3 b2", Picture.glossary(x));
        x.undo();
        Check.same("41 to 43: undone", "b2 c2 a1", Picture.glossary(x));
        Picture.print(x, 0, "c");
        Check.same("41 to 43: one more", "c3 b2 a1", Picture.glossary(x));
        x.withdraw();
        Check.same("41 to 43: withdrawn", "b2 c2 a1", Picture.glossary(x));
        x = Picture.daily("z y x w v u t s r q p o n m l k j i h g f e d c b a");
        Check.same("41: all letters", 26, x.glossary());
        Check.same("43: the first", "a", Picture.entry(x, 0));
        Check.same("43: the last", "z", Picture.entry(x, 25));
    }

    private static void promises41To43ManyWords() {
        PamphletQuarrel x = new PamphletQuarrel();
        for (char first = 'h'; first >= 'e'; first--) {
            Picture.print(x, 0, first + "a " + lettersOf(24, " " + first) + " " + first + "z a");
        }
        Check.same("42: asked before the others", 8, x.timesOf(0));
        Check.same("43: asked before the others", (int) 'e', x.glossaryLetter(1, 0));
        Check.same("41: many", 1 + 4 * 25, x.glossary());
        Check.same("43: the second", "ea", Picture.entry(x, 1));
        Check.same("43: the last", "hz", Picture.entry(x, 100));
        Check.same("42: the last", 1, x.timesOf(100));
        Check.refuses("42: behind the last", INDEX, () -> x.timesOf(101));
    }

    // ---- the buffer

    private static void promise44() {
        PamphletQuarrel x = new PamphletQuarrel();
        Check.same("44: the lowest code", 1, x.append(32));
        Check.same("44: the highest code", 2, x.append(126));
        for (int code : new int[] {31, 127, 0, -1, 97 + 256, LOWEST, HIGHEST}) {
            Check.refuses("44: code " + code, ARGUMENT, x, () -> x.append(code));
        }
        for (int i = 3; i <= 100; i++) {
            Check.same("44: length", i, x.append('a'));
        }
        Check.refuses("44: it is full", STATE, x, () -> x.append('a'));
        Check.refuses("44: the code first", ARGUMENT, x, () -> x.append(31));
        Check.same("44: a hundred", 100, x.clearText());
        Check.same("44: from the beginning", 1, x.append('b'));
        Check.same("44: not undoable", 0, x.savedStates());
    }

    private static void promise45() {
        PamphletQuarrel x = new PamphletQuarrel();
        Check.same("45: empty", 0, x.clearText());
        Picture.type(x, "ab cd");
        Check.same("45: five", 5, x.clearText());
        Check.same("45: empty again", 0, x.clearText());
        Check.same("45: nothing is left", 0, x.errorPosition());
        Check.same("45: not undoable", 0, x.savedStates());
        Picture.print(x, 0, "e");
        Check.same("45: nothing comes back", "e", Picture.words(x, 0));
    }

    private static void error(int due, String text) {
        PamphletQuarrel x = Picture.type(new PamphletQuarrel(), text);
        Check.same("46: " + text, due, x.errorPosition());
        Check.same("46: the buffer stays", text.length(), x.clearText());
    }

    private static void promise46() {
        String[] beginnings = {"", "a", "a ", "abcdefg", "abcdefg abcdefg", "\"", "\"a", "\"a b",
            "\"a ", "\"abcdefg abcdefg", "\"a\"", "\"a\"@", "\"a\"@0", "\"a\"@1", "\"a\"@9",
            "\"a\"@10", "\"a\"@19", "\"a\"@19 ", "\"a\"@1 b", "\"a\"@0 \"b c\"@3 d", "az", "z \"z"};
        for (String beginning : beginnings) {
            error(beginning.length(), beginning);
        }
        String[] errors = {" ", "a  ", "A", "a1", "a,", "1", "@", "abcdefgh", "abcdefg abcdefgh",
            "a\"", "\"\"", "\" ", "\"a  ", "\"a \"", "\"A", "\"abcdefgh", "\"a abcdefgh", "\"a1",
            "\"a@", "\"a\"a", "\"a\" ", "\"a\"0", "\"a\"\"", "\"a\"@a", "\"a\"@ ", "\"a\"@\"",
            "\"a\"@00", "\"a\"@09", "\"a\"@20", "\"a\"@99", "\"a\"@100", "\"a\"@190", "\"a\"@1a",
            "\"a\"@0\"", "\"a\"@0  ", "\"a\"@19a", "\"a\"@1/", "\"a\"@1:", "\"a\"@/", "\"a\"@:",
            "`", "{", "a`", "a{", "a~", "a!"};
        for (String error : errors) {
            error(error.length() - 1, error);
        }
        error(0, " abc");
        error(1, "a!\"b c\"@0");
        error(7, "abcdefghij k");
        error(99, "aa" + " a".repeat(48) + "  ");
        error(100, "a" + " \"b\"@0".repeat(16) + " cd");
    }

    // ---- undo and the snapshot

    private static void promise47() {
        PamphletQuarrel x = new PamphletQuarrel();
        Check.refuses("47: nothing is saved", STATE, x, x::undo);
        for (int i = 1; i <= 7; i++) {
            x.pass(i);
        }
        Picture.type(x, "abc");
        int[] days = {21, 15, 10, 6, 3};
        for (int i = 0; i < days.length; i++) {
            Check.same("47: left", 4 - i, x.undo());
            Check.same("47: day", days[i], x.day());
        }
        Check.refuses("47: the oldest were dropped", STATE, x, x::undo);
        Check.same("47: the day stays", 3, x.day());
        Check.same("47: the buffer stays", 3, x.clearText());
        x.pass(1);
        x.pass(1);
        Check.same("47: saved again", 1, x.undo());
        Check.same("47: day again", 4, x.day());
    }

    private static void promise47EachKind() {
        PamphletQuarrel x = Picture.daily("a b", "\"a c\"@0");
        Picture.print(x, 2, "\"c\"@1 d");
        String before = Picture.of(x);
        int saved = x.savedStates();
        x.mend(1, 0);
        x.mendAll();
        x.withdraw();
        x.undo();
        x.undo();
        x.undo();
        Check.same("47: three kinds undone", before.replace("saved " + saved, "saved 2"),
                Picture.of(x));
    }

    private static void promise48() {
        PamphletQuarrel x = new PamphletQuarrel();
        Check.same("48: none", 0, x.savedStates());
        int[] due = {1, 2, 3, 4, 5, 5, 5};
        for (int saved : due) {
            x.pass(1);
            Check.same("48: saved", saved, x.savedStates());
        }
        x.undo();
        Check.same("48: one less", 4, x.savedStates());
        x.append('a');
        x.clearText();
        x.takeSnapshot();
        x.whyNotPrinted();
        Check.same("48: these are not undoable", 4, x.savedStates());
        x.restoreSnapshot();
        Check.same("48: this one is", 5, x.savedStates());
    }

    private static void promises49And50() {
        PamphletQuarrel x = new PamphletQuarrel();
        Check.refuses("50: there is none", STATE, x, x::restoreSnapshot);
        Check.same("49: no pamphlets", 0, x.takeSnapshot());
        Picture.print(x, 4, "a b");
        x.pass(2);
        Picture.print(x, 5, "\"a c\"@0");
        Check.same("49: two, in place of the previous one", 2, x.takeSnapshot());
        x.mend(1, 0);
        Picture.print(x, 6, "c");
        x.pass(3);
        Picture.type(x, "xyz");
        Check.same("50: two then", 2, x.restoreSnapshot());
        Check.same("50: the state", "day 2, saved 5, buffer 3 0; 4 on 0: a b;"
                + " 5 on 2: a c [@0 0+2]", Picture.of(x));
        Check.same("50: the buffer stays", 3, x.clearText());
        x.mend(1, 0);
        Check.same("50: it stays", 2, x.restoreSnapshot());
        Check.same("50: as it was taken", "a c", Picture.words(x, 1));
    }

    private static void promise50AndUndo() {
        PamphletQuarrel x = Picture.daily("a");
        x.takeSnapshot();
        Picture.print(x, 1, "b");
        String before = Picture.of(x);
        x.restoreSnapshot();
        Check.same("50: saved", 4, x.savedStates());
        Check.same("50: one pamphlet", 1, x.pamphlets());
        x.undo();
        Check.same("50: undone", before, Picture.of(x));
        Check.same("50: the snapshot stays with undo", 1, x.restoreSnapshot());
        x.undo();
        x.undo();
        x.undo();
        x.undo();
        Check.same("47: back at the beginning", 0, x.pamphlets());
        Check.same("50: a snapshot is no saved state", 1, x.restoreSnapshot());
    }

    private static void promises47And50TheFirst() {
        PamphletQuarrel x = new PamphletQuarrel();
        x.pass(9);
        Picture.print(x, 4, "a b");
        x.takeSnapshot();
        String taken = Picture.of(x);
        x.undo();
        x.undo();
        Picture.print(x, 5, "c");
        String other = Picture.of(x);
        Check.same("50: one pamphlet", 1, x.restoreSnapshot());
        Check.same("50: the first with its author and day", taken, Picture.of(x));
        x.undo();
        Check.same("47: the other first with its author and day", other, Picture.of(x));
    }
}
