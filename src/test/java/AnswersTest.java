/** The bounds of the promises 31 to 43: blame, ladders and reading, and the glossary. */
public final class AnswersTest {
    private static final int LOWEST = Stand.LOWEST;
    private static final int HIGHEST = Stand.HIGHEST;

    private static final String NO_AUTHOR =
            "Throws IndexOutOfBoundsException if there is no such author";
    private static final String NO_PAMPHLET =
            "Throws IndexOutOfBoundsException if there is no such pamphlet";
    private static final String BLAME =
            "Returns the changes of all quotations of an author's pamphlets, together";
    private static final String WRONGS = "Returns the changes of all quotations of an author's"
            + " pamphlets whose sources are pamphlets of another one, or of the same one, together";
    private static final String BY_AUTHORS =
            "Returns the changes of all quotations, told author by author";
    private static final String BY_SOURCES = "Returns the same, told source by source";
    private static final String SHARE =
            "Returns the faithful ones, as a double, divided by all quotations";
    private static final String ANSWERS = "Tells whether a pamphlet answers another one";
    private static final String LADDER =
            "Returns how many pamphlets the longest ladder of a pamphlet has";
    private static final String LADDERS =
            "Returns how many ladders of a pamphlet begin with one that answers none";
    private static final String READING =
            "Returns how many pamphlets a reader reads to understand a pamphlet";
    private static final String READ_AT =
            "place: from 0, in the order in which they are read";
    private static final String NO_READ =
            "Throws IndexOutOfBoundsException if there is no such pamphlet or place";
    private static final String TIMES =
            "Returns how often the word at a place of the glossary stands in pamphlets";
    private static final String NO_PLACE =
            "Throws IndexOutOfBoundsException if there is no such place";
    private static final String NO_LETTER =
            "Throws IndexOutOfBoundsException if there is no such place, or index is below 0";

    private AnswersTest() {
    }

    public static void main(String[] args) {
        Check.run(AnswersTest.class);
    }

    private static String quote(String words, int source) {
        return "\"" + words + "\"@" + source;
    }

    // ---- promise 31: blameOf

    @Says(promise = 31, value = BLAME)
    private static void withoutPamphletsOrQuotations() {
        PamphletQuarrel x = new PamphletQuarrel();
        for (int author = 0; author <= 7; author++) {
            Check.same("without pamphlets", 0, x.blameOf(author));
        }
        x = Stand.many(8);
        for (int author = 0; author <= 7; author++) {
            Check.same("without quotations", 0, x.blameOf(author));
        }
    }

    // Of each author one pamphlet, that has as many changes as his number is, and one more word.
    private static PamphletQuarrel eachAuthor() {
        PamphletQuarrel x = Picture.daily("a");
        for (int author = 0; author <= 7; author++) {
            Picture.print(x, author, "\"a" + " z".repeat(author) + "\"@0 b");
        }
        return x;
    }

    @Says(promise = 31, value = BLAME)
    private static void eachAuthorByHimself() {
        PamphletQuarrel x = eachAuthor();
        for (int author = 0; author <= 7; author++) {
            Check.same("the author " + author, author, x.blameOf(author));
        }
    }

    @Says(promise = 31, value = BLAME)
    private static void theFirstAndTheLastQuotation() {
        PamphletQuarrel x = Picture.daily("a", quote("z", 0) + " " + quote("z z", 0),
                Stand.times(quote("z", 0), 16), quote("z z z", 2));
        Check.same("two pamphlets and one of 16", 19, x.blameOf(0));
        Picture.print(x, 0, quote("y y y y", 0));
        Check.same("of this day too", 23, x.blameOf(0));
        Picture.print(x, 1, quote("y y y y", 0));
        Check.same("not of another author", 23, x.blameOf(0));
    }

    @Says(promise = 31, value = BLAME)
    private static void theTwentiethPamphlet() {
        Check.same("fourteen changes", 14, Stand.full().blameOf(0));
        Check.same("of another author", 0, Stand.full().blameOf(1));
    }

    @Says(promise = 31, value = NO_AUTHOR)
    private static void noAuthorToBlame() {
        Refused.index(Stand::rich, x -> x.blameOf(-1), x -> x.blameOf(8), x -> x.blameOf(LOWEST),
                x -> x.blameOf(HIGHEST));
        Refused.index(PamphletQuarrel::new, x -> x.blameOf(-1), x -> x.blameOf(8));
    }

    // ---- promise 32: wrongs

    @Says(promise = 32, value = WRONGS)
    private static void withoutAnyWrongs() {
        PamphletQuarrel x = new PamphletQuarrel();
        Check.same("without pamphlets", 0, x.wrongs(0, 7));
        Check.same("of the same one", 0, x.wrongs(7, 7));
        Check.same("without quotations", 0, Stand.many(8).wrongs(0, 7));
    }

    // The authors 0 and 7 quote themselves and each other.
    private static PamphletQuarrel twoAuthors() {
        PamphletQuarrel x = new PamphletQuarrel();
        Picture.print(x, 0, "a b");
        Picture.print(x, 7, "c d");
        x.pass(1);
        Picture.print(x, 0, quote("z", 0) + " " + quote("z z", 1) + " " + quote("d", 1));
        Picture.print(x, 7, quote("z z z", 0) + " " + quote("z z z z", 1) + " " + quote("y", 1));
        return x;
    }

    @Says(promise = 32, value = WRONGS)
    private static void ofAnotherOne() {
        Check.same("0 of 7", 2, twoAuthors().wrongs(0, 7));
        Check.same("7 of 0", 3, twoAuthors().wrongs(7, 0));
        Check.same("0 of 3", 0, twoAuthors().wrongs(0, 3));
        Check.same("3 of 0", 0, twoAuthors().wrongs(3, 0));
    }

    @Says(promise = 32, value = WRONGS)
    private static void ofTheSameOne() {
        Check.same("0 of 0", 1, twoAuthors().wrongs(0, 0));
        Check.same("7 of 7", 5, twoAuthors().wrongs(7, 7));
        Check.same("3 of 3", 0, twoAuthors().wrongs(3, 3));
    }

    @Says(promise = 32, value = WRONGS)
    private static void allWrongsAreTheBlame() {
        PamphletQuarrel x = twoAuthors();
        for (int author = 0; author <= 7; author++) {
            int wrongs = 0;
            for (int other = 0; other <= 7; other++) {
                wrongs += x.wrongs(author, other);
            }
            Check.same("of the author " + author, x.blameOf(author), wrongs);
        }
    }

    @Says(promise = 32, value = NO_AUTHOR)
    private static void noSuchAuthorWhoWrongs() {
        Refused.index(Stand::rich, x -> x.wrongs(-1, 0), x -> x.wrongs(8, 0),
                x -> x.wrongs(LOWEST, 7), x -> x.wrongs(HIGHEST, 7));
    }

    @Says(promise = 32, value = NO_AUTHOR)
    private static void noSuchAuthorWhoIsWronged() {
        Refused.index(Stand::rich, x -> x.wrongs(0, -1), x -> x.wrongs(0, 8),
                x -> x.wrongs(7, LOWEST), x -> x.wrongs(7, HIGHEST), x -> x.wrongs(8, 8),
                x -> x.wrongs(-1, -1));
    }

    // ---- promises 33 and 34: blameByAuthors and blameBySources

    @Says(promise = 33, value = BY_AUTHORS)
    private static void nothingToBlame() {
        Check.same("no pamphlets", 0, new PamphletQuarrel().blameByAuthors());
        Check.same("no quotations", 0, Stand.many(20).blameByAuthors());
        Check.same("only faithful ones", 0, Picture.daily("a", quote("a", 0)).blameByAuthors());
    }

    @Says(promise = 33, value = BY_AUTHORS)
    private static void allAuthors() {
        Check.same("0 to 7", 28, eachAuthor().blameByAuthors());
        Check.same("0 and 7", 11, twoAuthors().blameByAuthors());
        Check.same("the twentieth pamphlet", 14, Stand.full().blameByAuthors());
    }

    @Says(promise = 33, value = BY_AUTHORS)
    private static void theFirstAndTheLastAuthor() {
        for (int author = 0; author <= 7; author++) {
            PamphletQuarrel x = Picture.daily("a");
            Picture.print(x, author, quote("b b", 0));
            Check.same("the author " + author, 2, x.blameByAuthors());
        }
    }

    @Says(promise = 34, value = BY_SOURCES)
    private static void nothingToBlameBySources() {
        Check.same("no pamphlets", 0, new PamphletQuarrel().blameBySources());
        Check.same("no quotations", 0, Stand.many(20).blameBySources());
        Check.same("only faithful ones", 0, Picture.daily("a", quote("a", 0)).blameBySources());
    }

    @Says(promise = 34, value = BY_SOURCES)
    private static void allSources() {
        Check.same("of one source", 28, eachAuthor().blameBySources());
        Check.same("of two sources", 11, twoAuthors().blameBySources());
        Check.same("of fourteen sources", 14, Stand.full().blameBySources());
    }

    @Says(promise = 34, value = BY_SOURCES)
    private static void theFirstAndTheLastSource() {
        for (int source = 0; source <= 18; source++) {
            PamphletQuarrel x = Stand.many(19);
            x.clearText();
            x.pass(1);
            Picture.print(x, 3, quote("z z", source));
            Check.same("the source " + source, 2, x.blameBySources());
        }
    }

    // ---- promise 35: faithfulShare

    @Says(promise = 35, value = "0.0 without such")
    private static void withoutQuotations() {
        Check.same("no pamphlets", 0.0, new PamphletQuarrel().faithfulShare());
        Check.same("no quotations", 0.0, Stand.many(20).faithfulShare());
    }

    @Says(promise = 35, value = SHARE)
    private static void noneAndAll() {
        Check.same("none of one", 0.0, Picture.daily("a", quote("b", 0)).faithfulShare());
        Check.same("one of one", 1.0, Picture.daily("a", quote("a", 0)).faithfulShare());
        Check.same("none of fourteen", 0.0, Stand.full().faithfulShare());
        Check.same("all of sixteen", 1.0,
                Picture.daily("a", Stand.times(quote("a", 0), 16)).faithfulShare());
    }

    @Says(promise = 35, value = SHARE)
    private static void partsOfThem() {
        String two = quote("a", 0) + " " + quote("b", 0);
        String fifteen = Stand.times(quote("a", 0), 15);
        Check.same("one of two", 0.5, Picture.daily("a", two).faithfulShare());
        Check.same("one of three", 1.0 / 3.0,
                Picture.daily("a", two, quote("b", 0)).faithfulShare());
        Check.same("fifteen of sixteen", 15.0 / 16.0,
                Picture.daily("a", fifteen + " " + quote("b", 0)).faithfulShare());
    }

    @Says(promise = 35, value = "Returns which part of the quotations is faithful")
    private static void theFirstAndTheLastPamphletThatQuotes() {
        PamphletQuarrel x = Picture.daily("a", quote("b", 0), quote("c", 1), quote("a", 0));
        Check.same("the last of three", 1.0 / 3.0, x.faithfulShare());
        x.mend(1, 0);
        Check.same("the first too", 2.0 / 3.0, x.faithfulShare());
    }

    // ---- promise 36: answers

    @Says(promise = 36, value = ANSWERS)
    private static void thePamphletBeforeAndNotItself() {
        PamphletQuarrel x = Picture.daily("a", quote("a", 0), quote("a", 1));
        Check.same("1 and 0", true, x.answers(1, 0));
        Check.same("0 and 1", false, x.answers(0, 1));
        Check.same("2 and 1", true, x.answers(2, 1));
        Check.same("2 and 0", false, x.answers(2, 0));
        for (int i = 0; i < 3; i++) {
            Check.same(i + " and itself", false, x.answers(i, i));
        }
    }

    @Says(promise = 36, value = ANSWERS)
    private static void eachSourceOfTheTwentieth() {
        PamphletQuarrel x = Stand.full();
        for (int other = 0; other < 20; other++) {
            Check.same("19 and " + other, other < 14, x.answers(19, other));
        }
    }

    @Says(promise = 36, value = NO_PAMPHLET)
    private static void noPamphletThatAnswers() {
        Numbers.pamphlets((x, pamphlet) -> x.answers(pamphlet, 0));
    }

    @Says(promise = 36, value = NO_PAMPHLET)
    private static void noPamphletThatIsAnswered() {
        Numbers.pamphlets((x, pamphlet) -> x.answers(0, pamphlet));
    }

    // ---- promises 37 and 38: ladderOf and laddersOf

    // Each pamphlet from the first on quotes the one before.
    private static PamphletQuarrel chain(int pamphlets) {
        PamphletQuarrel x = Picture.daily("a");
        for (int i = 1; i < pamphlets; i++) {
            Picture.print(x, 0, quote("a", i - 1));
            x.pass(1);
        }
        return x;
    }

    @Says(promise = 37, value = LADDER)
    private static void oneToTwenty() {
        PamphletQuarrel x = chain(20);
        for (int i = 0; i < 20; i++) {
            Check.same("of the pamphlet " + i, i + 1, x.ladderOf(i));
        }
    }

    @Says(promise = 37, value = LADDER)
    private static void onlyOneThoughThereAreOthers() {
        PamphletQuarrel x = Stand.many(20);
        Check.same("the first", 1, x.ladderOf(0));
        Check.same("the last", 1, x.ladderOf(19));
    }

    @Says(promise = 37, value = LADDER)
    private static void theLongestOfSeveral() {
        PamphletQuarrel x = chain(4);
        Picture.print(x, 0, "b");
        x.pass(1);
        Picture.print(x, 0, quote("a", 0) + " " + quote("a", 3) + " " + quote("b", 4));
        Check.same("the one between", 5, x.ladderOf(5));
        Check.same("the two", 2, Stand.full().ladderOf(19));
    }

    @Says(promise = 37, value = NO_PAMPHLET)
    private static void noPamphletWithALadder() {
        Numbers.pamphlets((x, pamphlet) -> x.ladderOf(pamphlet));
    }

    @Says(promise = 38, value = LADDERS)
    private static void oneLadder() {
        Check.same("without quotations", 1, Stand.many(1).laddersOf(0));
        Check.same("the last of twenty", 1, chain(20).laddersOf(19));
        Check.same("the same source twice", 1,
                Picture.daily("a", quote("a", 0) + " " + quote("a", 0)).laddersOf(1));
    }

    @Says(promise = 38, value = LADDERS)
    private static void manyLadders() {
        Check.same("fourteen sources", 14, Stand.full().laddersOf(19));
        PamphletQuarrel x = Picture.daily("a");
        for (int i = 1; i < 11; i++) {
            StringBuilder text = new StringBuilder();
            for (int source = 0; source < i; source++) {
                text.append(source == 0 ? "" : " ").append(quote("a", source));
            }
            Picture.print(x, 0, text.toString());
            x.pass(1);
            Check.same("each answers all before, " + i, 1 << i - 1, x.laddersOf(i));
        }
    }

    // Each pamphlet answers the two before it, and so has the ladders of both.
    @Says(promise = 38, value = LADDERS)
    private static void laddersOfTwoBefore() {
        PamphletQuarrel x = Picture.daily("a", quote("a", 0));
        int before = 1;
        int last = 1;
        for (int i = 2; i < 20; i++) {
            Picture.print(x, 0, quote("a", i - 1) + " " + quote("a", i - 2));
            x.pass(1);
            int next = before + last;
            before = last;
            last = next;
            Check.same("of the pamphlet " + i, next, x.laddersOf(i));
        }
        Check.same("the longest", 20, x.ladderOf(19));
    }

    @Says(promise = 38, value = NO_PAMPHLET)
    private static void noPamphletWithLadders() {
        Numbers.pamphlets((x, pamphlet) -> x.laddersOf(pamphlet));
    }

    // ---- promises 39 and 40: readingOf and readAt

    @Says(promise = 39, value = READING)
    private static void readsOneToTwenty() {
        PamphletQuarrel x = chain(20);
        for (int i = 0; i < 20; i++) {
            Check.same("of the pamphlet " + i, i + 1, x.readingOf(i));
        }
        Check.same("alone", 1, Stand.many(20).readingOf(19));
        Check.same("fourteen sources and itself", 15, Stand.full().readingOf(19));
    }

    @Says(promise = 39, value = READING)
    private static void readsEachOnce() {
        PamphletQuarrel x = Picture.daily("a", quote("a", 0), quote("a", 0),
                quote("a", 1) + " " + quote("a", 2) + " " + quote("a", 0) + " " + quote("a", 0));
        Check.same("four", 4, x.readingOf(3));
    }

    @Says(promise = 39, value = NO_PAMPHLET)
    private static void noPamphletToUnderstand() {
        Numbers.pamphlets((x, pamphlet) -> x.readingOf(pamphlet));
    }

    @Says(promise = 40, value = READ_AT)
    private static void theFirstAndTheLastPlace() {
        PamphletQuarrel x = chain(20);
        for (int place = 0; place < 20; place++) {
            Check.same("the place " + place, place, x.readAt(19, place));
        }
        Check.same("alone", 7, Stand.many(20).readAt(7, 0));
        PamphletQuarrel y = Picture.daily("a", "b", quote("b", 1) + " " + quote("a", 0));
        Check.same("the first of three", 0, y.readAt(2, 0));
    }

    @Says(promise = 40, value = "Returns a pamphlet that a reader reads to understand a pamphlet")
    private static void onlyWhatIsAnswered() {
        PamphletQuarrel x = Picture.daily("a", "b", quote("b", 1), "c", quote("b", 2));
        int[] due = {1, 2, 4};
        for (int place = 0; place < due.length; place++) {
            Check.same("the place " + place, due[place], x.readAt(4, place));
        }
        Check.refuses("no more", IndexOutOfBoundsException.class, () -> x.readAt(4, 3));
    }

    @Says(promise = 40, value = NO_READ)
    private static void noSuchPlaceOfReading() {
        Refused.index(Stand::rich, x -> x.readAt(0, -1), x -> x.readAt(0, 1), x -> x.readAt(2, 3),
                x -> x.readAt(2, -1), x -> x.readAt(2, LOWEST), x -> x.readAt(2, HIGHEST));
        Refused.index(Stand::full, x -> x.readAt(19, 15), x -> x.readAt(19, 19),
                x -> x.readAt(19, 20), x -> x.readAt(18, 1));
        PamphletQuarrel x = chain(20);
        Check.refuses("behind all twenty", IndexOutOfBoundsException.class, () -> x.readAt(19, 20));
    }

    @Says(promise = 40, value = NO_READ)
    private static void noPamphletToRead() {
        Numbers.pamphlets((x, pamphlet) -> x.readAt(pamphlet, 0));
    }

    // ---- promises 41 to 43: the glossary

    @Says(promise = 41, value = "Returns how many words the glossary has")
    private static void noWordToAllWords() {
        Check.same("no pamphlets", 0, new PamphletQuarrel().glossary());
        Check.same("one word", 1, Picture.daily("a").glossary());
        Check.same("one word many times", 1, Picture.daily(Stand.times("a", 50), "a").glossary());
        Check.same("26 words", 26, Picture.daily(Stand.letters(26)).glossary());
        Check.same("words that begin the same", 7,
                Picture.daily("a ab abc abcd abcde abcdef abcdefg").glossary());
        Check.same("twenty pamphlets", 20, Stand.many(20).glossary());
        Check.same("twenty pamphlets with z", 20, Stand.full().glossary());
    }

    // 33 words of two letters, 26 with the one first letter and 7 with the other.
    private static String pairs(char... firsts) {
        StringBuilder text = new StringBuilder();
        for (int i = 0; i < 33; i++) {
            text.append(i == 0 ? "" : " ").append(firsts[i / 26]).append((char) ('a' + i % 26));
        }
        return text.toString();
    }

    @Says(promise = 41, value = "Returns how many words the glossary has")
    private static void asManyDifferentWordsAsCanBeTyped() {
        PamphletQuarrel x = new PamphletQuarrel();
        Picture.print(x, 0, pairs('a', 'b'));
        Picture.print(x, 0, pairs('c', 'd'));
        Picture.print(x, 0, pairs('e', 'f'));
        Picture.print(x, 0, pairs('g', 'h'));
        Picture.print(x, 0, "z y x w v u t s r q p o n m l");
        Check.same("words", 4 * 33 + 15, x.glossary());
        Check.same("the last", 1, x.timesOf(146));
        Check.refuses("behind the last", IndexOutOfBoundsException.class, () -> x.timesOf(147));
        Check.same("the first", "aa", Picture.entry(x, 0));
        Check.same("the last", "z", Picture.entry(x, 146));
    }

    @Says(promise = 41, value = "Returns how many words the glossary has")
    private static void errataAndUndoChangeIt() {
        PamphletQuarrel x = Picture.daily("a", quote("b c", 0));
        Check.same("before", 3, x.glossary());
        x.mend(1, 0);
        Check.same("mended", 1, x.glossary());
        x.undo();
        Check.same("undone", 3, x.glossary());
    }

    @Says(promise = 42, value = TIMES)
    private static void onceToManyTimes() {
        PamphletQuarrel x = Picture.daily("b " + Stand.times("a", 49), Stand.times("a", 50),
                Stand.times("a", 50), Stand.times("a", 50));
        Check.same("the most frequent", 199, x.timesOf(0));
        Check.same("the rarest", 1, x.timesOf(1));
    }

    @Says(promise = 42, value = TIMES)
    private static void quotedWordsToo() {
        PamphletQuarrel x = Picture.daily("a", quote("a b", 0) + " a");
        Check.same("a", 3, x.timesOf(0));
        Check.same("b", 1, x.timesOf(1));
        x.mend(1, 0);
        Check.same("a", 3, x.timesOf(0));
        Check.refuses("no b", IndexOutOfBoundsException.class, () -> x.timesOf(1));
    }

    @Says(promise = 42, value = "place: from 0")
    private static void theFirstAndTheLastPlaceOfTheGlossary() {
        PamphletQuarrel x = Picture.daily("a b b c c c");
        Check.same("the first", 3, x.timesOf(0));
        Check.same("the last", 1, x.timesOf(2));
    }

    @Says(promise = 42, value = NO_PLACE)
    private static void noSuchPlaceWithTimes() {
        Refused.index(() -> Picture.daily("a b b c c c"), x -> x.timesOf(-1), x -> x.timesOf(3),
                x -> x.timesOf(LOWEST), x -> x.timesOf(HIGHEST), x -> x.timesOf(1200));
        Refused.index(PamphletQuarrel::new, x -> x.timesOf(0), x -> x.timesOf(-1));
        Refused.index(Stand::empty, x -> x.timesOf(0));
        Refused.index(Stand::full, x -> x.timesOf(20), x -> x.timesOf(-1));
    }

    @Says(promise = 43, value = "place: from 0")
    private static void theFirstAndTheLastWordOfTheGlossary() {
        PamphletQuarrel x = Picture.daily("c b b a a a");
        Check.same("the first", (int) 'a', x.glossaryLetter(0, 0));
        Check.same("the last", (int) 'c', x.glossaryLetter(2, 0));
    }

    @Says(promise = 43, value = "index: from 0")
    private static void theFirstAndTheSeventhLetter() {
        PamphletQuarrel x = Picture.daily("gfedcba");
        Check.same("the first", (int) 'g', x.glossaryLetter(0, 0));
        Check.same("the seventh", (int) 'a', x.glossaryLetter(0, 6));
    }

    @Says(promise = 43, value = "Returns a letter of the word at a place of the glossary")
    private static void ofTheMostFrequentWordFirst() {
        PamphletQuarrel x = Picture.daily("ab zy zy", "zy ab ba zy");
        Check.same("zy", "zy4 ab2 ba1", Picture.glossary(x));
        Check.same("the second letter of the first", (int) 'y', x.glossaryLetter(0, 1));
        Check.same("the second letter of the last", (int) 'a', x.glossaryLetter(2, 1));
    }

    @Says(promise = 43, value = "Returns its code")
    private static void theCodesAToZ() {
        PamphletQuarrel x = Picture.daily(Stand.letters(26));
        for (int i = 0; i < 26; i++) {
            Check.same("the word " + i, 'a' + i, x.glossaryLetter(i, 0));
        }
    }

    @Says(promise = 43, value = "NONE behind the end of the word")
    private static void behindEachLengthOfAnEntry() {
        PamphletQuarrel x = Picture.daily("a ab abc abcd abcde abcdef abcdefg");
        for (int place = 0; place < 7; place++) {
            Check.same("the last letter", 'a' + place, x.glossaryLetter(place, place));
            Check.same("one behind it", -1, x.glossaryLetter(place, place + 1));
            Check.same("far behind it", -1, x.glossaryLetter(place, HIGHEST));
            Check.same("twelve", -1, x.glossaryLetter(place, 12));
        }
    }

    @Says(promise = 43, value = NO_LETTER)
    private static void noSuchPlaceWithALetter() {
        Refused.index(() -> Picture.daily("a b b c c c"), x -> x.glossaryLetter(-1, 0),
                x -> x.glossaryLetter(3, 0), x -> x.glossaryLetter(LOWEST, 0),
                x -> x.glossaryLetter(HIGHEST, 0));
        Refused.index(PamphletQuarrel::new, x -> x.glossaryLetter(0, 0));
        Refused.index(Stand::full, x -> x.glossaryLetter(20, 0), x -> x.glossaryLetter(-1, 0));
    }

    @Says(promise = 43, value = NO_LETTER)
    private static void theIndexIsBelow0() {
        Refused.index(() -> Picture.daily("a b b c c c"), x -> x.glossaryLetter(0, -1),
                x -> x.glossaryLetter(2, -1), x -> x.glossaryLetter(0, LOWEST),
                x -> x.glossaryLetter(3, -1), x -> x.glossaryLetter(-1, -1));
    }
}
