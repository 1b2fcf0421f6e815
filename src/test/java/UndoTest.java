/** The bounds of the promises 44 to 50: the buffer, undo and the snapshot. */
public final class UndoTest {
    private static final int LOWEST = Stand.LOWEST;
    private static final int HIGHEST = Stand.HIGHEST;

    private static final String LENGTH = "Returns the length of the buffer afterwards";
    private static final String CODE = "Throws IllegalArgumentException if code is out of range";
    private static final String FULL =
            "Throws IllegalStateException if the buffer has 100 characters";
    private static final String RESTORES = "Restores the state that was saved last, and drops it";
    private static final String LEFT = "Returns how many saved states are left";
    private static final String NONE_SAVED = "Throws IllegalStateException if no state is saved";
    private static final String SAVED = "Returns how many states are saved";
    private static final String TAKES =
            "Takes a snapshot of the state, in place of the previous one";
    private static final String STAYS = "Restores the state of the snapshot, which stays";
    private static final String THEN = "Returns how many pamphlets there are then";
    private static final String NO_SNAPSHOT =
            "Throws IllegalStateException if there is no snapshot";

    private static final String HUNDRED = Stand.times("abcdefg", 12) + " wxyz";

    private UndoTest() {
    }

    public static void main(String[] args) {
        Check.run(UndoTest.class);
    }

    private static PamphletQuarrel typed(String text) {
        return Picture.type(new PamphletQuarrel(), text);
    }

    // ---- promise 44: append

    @Says(promise = 44, value = "code: 32 to 126")
    private static void eachCode() {
        for (int code = 32; code <= 126; code++) {
            Check.same("length with " + code, 1, new PamphletQuarrel().append(code));
        }
    }

    @Says(promise = 44, value = "Appends a character to the buffer")
    private static void theFirstAndTheHundredthCharacter() {
        PamphletQuarrel x = typed(HUNDRED);
        x.print(0);
        Check.same("the first", (int) 'a', x.letterOf(0, 0, 0));
        Check.same("the hundredth", (int) 'z', x.letterOf(0, 12, 3));
        Check.same("no more", -1, x.letterOf(0, 12, 4));
    }

    @Says(promise = 44, value = LENGTH)
    private static void oneToHundred() {
        PamphletQuarrel x = new PamphletQuarrel();
        for (int i = 1; i <= 100; i++) {
            Check.same("length", i, x.append(i % 2 == 0 ? 32 : 126));
        }
        Check.same("the length that it had", 100, x.clearText());
        Check.same("from the beginning", 1, x.append(32));
    }

    @Says(promise = 44, value = CODE)
    private static void theCodes31And127() {
        Refused.argument(Stand::rich, x -> x.append(31), x -> x.append(127), x -> x.append(0),
                x -> x.append(-1), x -> x.append(128), x -> x.append(97 + 256),
                x -> x.append(97 + 65_536), x -> x.append(97 - 65_536),
                x -> x.append(LOWEST), x -> x.append(HIGHEST));
        Refused.argument(PamphletQuarrel::new, x -> x.append(31), x -> x.append(127));
    }

    @Says(promise = 44, value = CODE)
    private static void theCodeComesFirst() {
        Refused.argument(() -> typed(HUNDRED), x -> x.append(31), x -> x.append(127),
                x -> x.append(LOWEST), x -> x.append(HIGHEST));
    }

    @Says(promise = 44, value = FULL)
    private static void ninetyNineAndHundredCharacters() {
        PamphletQuarrel x = typed(HUNDRED.substring(0, 99));
        Check.same("the hundredth", 100, x.append('z'));
        Refused.state(() -> typed(HUNDRED), y -> y.append('a'), y -> y.append(32),
                y -> y.append(126));
    }

    @Says(promise = 44, value = FULL)
    private static void roomAgainWhenItIsEmptied() {
        PamphletQuarrel x = typed(HUNDRED);
        x.clearText();
        Check.same("cleared", 1, x.append('a'));
        x.clearText();
        Picture.print(x, 0, HUNDRED);
        Check.same("printed", 1, x.append('a'));
    }

    // ---- promise 45: clearText

    @Says(promise = 45, value = "Empties the buffer")
    private static void emptyThen() {
        for (String text : new String[] {"", "a", "A ", HUNDRED}) {
            PamphletQuarrel x = typed(text);
            x.clearText();
            Check.same("error position", 0, x.errorPosition());
            Check.same("why not", 2, x.whyNotPrinted());
            Check.same("the first character", 1, x.append('q'));
            x.print(0);
            Check.same("the only word", "q", Picture.words(x, 0));
        }
    }

    @Says(promise = 45, value = "Empties the buffer")
    private static void changesNothingElse() {
        PamphletQuarrel x = Stand.rich();
        String before = Picture.whole(x).replace("buffer 3 0", "buffer 0 2");
        x.clearText();
        Check.same("then", before, Picture.whole(x));
    }

    @Says(promise = 45, value = "Returns the length that it had")
    private static void noneToHundred() {
        PamphletQuarrel x = new PamphletQuarrel();
        Check.same("new", 0, x.clearText());
        Check.same("one", 1, typed("~").clearText());
        Check.same("99", 99, typed(HUNDRED.substring(1)).clearText());
        PamphletQuarrel y = typed(HUNDRED);
        Check.same("a hundred", 100, y.clearText());
        Check.same("again", 0, y.clearText());
    }

    // ---- promise 46: errorPosition

    @Says(promise = 46, value = "Returns the error position of the buffer")
    private static void atTheFirstAndTheHundredthCharacter() {
        Check.same("the first", 0, typed("A").errorPosition());
        Check.same("the second", 1, typed("aA").errorPosition());
        Check.same("the hundredth", 99, typed(HUNDRED.substring(0, 99) + "A").errorPosition());
        Check.same("the beginning of a text", 2, typed("a ").errorPosition());
        Check.same("a hundred without error", 100,
                typed(HUNDRED.substring(0, 99) + " ").errorPosition());
    }

    @Says(promise = 46, value = "Returns the error position of the buffer")
    private static void staysWhereItIs() {
        PamphletQuarrel x = typed("ab!");
        for (int i = 0; i < 20; i++) {
            Check.same("with more behind it", 2, x.errorPosition());
            x.append('a');
        }
        Check.same("characters", 23, x.clearText());
    }

    @Says(promise = 46, value = "its length also if it is a text")
    private static void theLengthOfAText() {
        Check.same("one character", 1, typed("a").errorPosition());
        Check.same("a quotation", 5, typed("\"a\"@0").errorPosition());
        Check.same("a hundred", 100, typed(HUNDRED).errorPosition());
        Check.same("no text yet", 0, new PamphletQuarrel().errorPosition());
    }

    // ---- promise 47: undo

    @Says(promise = 47, value = RESTORES)
    private static void oneOfEachKind() {
        PamphletQuarrel x = Picture.daily("a b", "\"a c\"@0");
        Picture.print(x, 7, "d");
        x.takeSnapshot();
        String before = Picture.whole(x).replace("saved 5", "saved 4");
        Runnable[] kinds = {() -> Picture.print(x, 3, "c"), () -> x.pass(1), () -> x.mend(1, 0),
            x::mendAll, x::withdraw, x::restoreSnapshot};
        for (int i = 0; i < kinds.length; i++) {
            kinds[i].run();
            Check.same("saved with " + i, 5, x.savedStates());
            Check.same("left of " + i, 4, x.undo());
            if (i % 2 == 1) {
                Check.same("undone: " + i, before, Picture.whole(x));
            } else {
                Check.same("undone: " + i, 3, x.pamphlets());
            }
        }
    }

    @Says(promise = 47, value = RESTORES)
    private static void eachOfFiveInTurn() {
        PamphletQuarrel x = Picture.daily("a b");
        Picture.print(x, 1, "\"b c\"@0");
        Picture.print(x, 2, "d");
        x.pass(4);
        Check.same("five", 5, x.savedStates());
        Check.same("four", 4, x.undo());
        Check.same("the day", 1, x.day());
        Check.same("three", 3, x.undo());
        Check.same("pamphlets", 2, x.pamphlets());
        Check.same("two", 2, x.undo());
        Check.same("pamphlets", 1, x.pamphlets());
        Check.same("one", 1, x.undo());
        Check.same("the day", 0, x.day());
        Check.same("none", 0, x.undo());
        Check.same("pamphlets", 0, x.pamphlets());
    }

    // What was printed after the withdrawal stood under the same number.
    @Says(promise = 47, value = RESTORES)
    private static void theWithdrawnOneNotTheNextOne() {
        PamphletQuarrel x = Picture.daily("a b c");
        Picture.print(x, 1, "d \"a b\"@0 e");
        x.withdraw();
        Picture.print(x, 2, "\"c\"@0");
        Check.same("the next one", "c", Picture.words(x, 1));
        x.undo();
        x.undo();
        Check.same("the withdrawn one", "d a b e", Picture.words(x, 1));
        Check.same("its author", 1, x.authorOf(1));
        Check.same("its quotation", "@0 1+2", Picture.quotation(x, 1, 0));
    }

    @Says(promise = 47, value = RESTORES)
    private static void theFirstPamphletNotTheNextFirst() {
        PamphletQuarrel x = new PamphletQuarrel();
        Picture.print(x, 7, "a b");
        x.withdraw();
        x.pass(1);
        Picture.print(x, 2, "c");
        x.undo();
        x.undo();
        x.undo();
        Check.same("the words", "a b", Picture.words(x, 0));
        Check.same("the author", 7, x.authorOf(0));
        Check.same("the day", 0, x.dayOf(0));
    }

    @Says(promise = 47, value = RESTORES)
    private static void notTheBuffer() {
        PamphletQuarrel x = Picture.daily("a");
        Picture.type(x, HUNDRED);
        x.undo();
        Check.same("the day", 0, x.day());
        Check.same("characters", 100, x.clearText());
        Picture.type(x, "b");
        x.print(0);
        x.undo();
        Check.same("no characters", 0, x.clearText());
    }

    @Says(promise = 47, value = RESTORES)
    private static void saysNothingOfItself() {
        PamphletQuarrel x = new PamphletQuarrel();
        x.pass(1);
        x.pass(2);
        x.undo();
        x.undo();
        Check.same("undo is not undone", 0, x.savedStates());
        Check.same("the day", 0, x.day());
    }

    @Says(promise = 47, value = RESTORES)
    private static void savedAndUndoneByTurns() {
        PamphletQuarrel x = new PamphletQuarrel();
        int[] days = new int[60];
        int top = 0;
        for (int turn = 0; turn < 9; turn++) {
            for (int i = 0; i < 4; i++) {
                days[top + 1] = days[top] + turn + i + 1;
                top++;
                Check.same("passed", days[top], x.pass(turn + i + 1));
            }
            for (int i = 0; i < 3; i++) {
                x.undo();
                top--;
                Check.same("undone", days[top], x.day());
            }
        }
        Check.same("saved", 2, x.savedStates());
    }

    @Says(promise = 47, value = LEFT)
    private static void fourToNone() {
        PamphletQuarrel x = new PamphletQuarrel();
        for (int i = 0; i < 9; i++) {
            x.pass(1);
        }
        for (int left = 4; left >= 0; left--) {
            Check.same("left", left, x.undo());
            Check.same("saved", left, x.savedStates());
        }
    }

    @Says(promise = 47, value = NONE_SAVED)
    private static void nothingSavedYet() {
        Refused.state(PamphletQuarrel::new, x -> x.undo());
        Refused.state(() -> {
            PamphletQuarrel x = Stand.empty();
            x.takeSnapshot();
            return x;
        }, x -> x.undo());
    }

    @Says(promise = 47, value = NONE_SAVED)
    private static void nothingSavedAnyMore() {
        Refused.state(() -> {
            PamphletQuarrel x = new PamphletQuarrel();
            x.pass(1);
            x.undo();
            return x;
        }, x -> x.undo());
        Refused.state(() -> {
            PamphletQuarrel x = Stand.rich();
            for (int i = 0; i < 5; i++) {
                x.undo();
            }
            return x;
        }, x -> x.undo());
    }

    @Says(promise = 47, value = NONE_SAVED)
    private static void savedAgainAfterAll() {
        PamphletQuarrel x = new PamphletQuarrel();
        for (int turn = 0; turn < 9; turn++) {
            x.pass(1);
            x.pass(2);
            Check.same("left", 1, x.undo());
            Check.same("the day", 1, x.day());
            Check.same("left", 0, x.undo());
            Check.same("the first day", 0, x.day());
        }
    }

    // ---- promise 48: savedStates

    @Says(promise = 48, value = SAVED)
    private static void noneToFive() {
        PamphletQuarrel x = new PamphletQuarrel();
        int[] due = {0, 1, 2, 3, 4, 5, 5, 5, 5, 5, 5, 5};
        for (int saved : due) {
            Check.same("saved", saved, x.savedStates());
            x.pass(1);
        }
    }

    @Says(promise = 48, value = SAVED)
    private static void notByOtherCalls() {
        PamphletQuarrel x = Stand.many(1);
        Check.same("before", 1, x.savedStates());
        x.append('a');
        x.clearText();
        x.errorPosition();
        x.whyNotPrinted();
        x.takeSnapshot();
        Picture.whole(x);
        Check.same("then", 1, x.savedStates());
    }

    // ---- promises 49 and 50: takeSnapshot and restoreSnapshot

    @Says(promise = 49, value = TAKES)
    private static void theFirstAndTheNextSnapshot() {
        PamphletQuarrel x = new PamphletQuarrel();
        x.takeSnapshot();
        x.pass(1);
        x.takeSnapshot();
        x.pass(2);
        x.restoreSnapshot();
        Check.same("the day of the next one", 1, x.day());
    }

    @Says(promise = 49, value = TAKES)
    private static void ofTheWholeState() {
        PamphletQuarrel x = Picture.daily("a b", "\"a c\"@0");
        x.takeSnapshot();
        String before = Picture.whole(x).replace("saved 4", "saved 5");
        x.mend(1, 0);
        Picture.print(x, 6, "e");
        x.pass(9);
        x.restoreSnapshot();
        Check.same("restored", before, Picture.whole(x));
    }

    @Says(promise = 49, value = TAKES)
    private static void ofNoPamphlets() {
        PamphletQuarrel x = new PamphletQuarrel();
        x.takeSnapshot();
        Picture.print(x, 0, "a");
        Check.same("none then", 0, x.restoreSnapshot());
        Check.same("no words", 0, x.glossary());
        x.undo();
        Check.same("undone", "a", Picture.words(x, 0));
    }

    @Says(promise = 49, value = "Returns how many pamphlets there are")
    private static void noPamphletsToTwenty() {
        Check.same("none", 0, new PamphletQuarrel().takeSnapshot());
        Check.same("one", 1, Stand.many(1).takeSnapshot());
        Check.same("twenty", 20, Stand.full().takeSnapshot());
    }

    @Says(promise = 50, value = STAYS)
    private static void againAndAgain() {
        PamphletQuarrel x = Picture.daily("a b", "\"a c\"@0");
        x.takeSnapshot();
        for (int i = 0; i < 7; i++) {
            x.mend(1, 0);
            x.pass(1);
            Check.same("pamphlets", 2, x.restoreSnapshot());
            Check.same("the day", 2, x.day());
            Check.same("changes", 1, x.changesByTable(1, 0));
        }
    }

    @Says(promise = 50, value = STAYS)
    private static void staysWhenItsPamphletsAreWithdrawn() {
        PamphletQuarrel x = Picture.daily("a b c");
        Picture.print(x, 1, "d \"a b\"@0 e");
        x.takeSnapshot();
        x.withdraw();
        Picture.print(x, 2, "\"c\"@0");
        x.restoreSnapshot();
        Check.same("the withdrawn one", "d a b e", Picture.words(x, 1));
        Check.same("its author", 1, x.authorOf(1));
        Check.same("its quotation", "@0 1+2", Picture.quotation(x, 1, 0));
        x.undo();
        Check.same("the next one", "c", Picture.words(x, 1));
        Check.same("its author", 2, x.authorOf(1));
    }

    @Says(promise = 50, value = STAYS)
    private static void staysWhenTheFirstPamphletIsAnother() {
        PamphletQuarrel x = new PamphletQuarrel();
        Picture.print(x, 7, "a b");
        x.takeSnapshot();
        x.withdraw();
        x.pass(1);
        Picture.print(x, 2, "c");
        x.restoreSnapshot();
        Check.same("the words", "a b", Picture.words(x, 0));
        Check.same("the author", 7, x.authorOf(0));
        Check.same("the day", 0, x.dayOf(0));
        x.undo();
        Check.same("the other words", "c", Picture.words(x, 0));
        Check.same("the other author", 2, x.authorOf(0));
        Check.same("the other day", 1, x.dayOf(0));
    }

    @Says(promise = 50, value = STAYS)
    private static void staysWithUndo() {
        PamphletQuarrel x = new PamphletQuarrel();
        x.pass(1);
        x.takeSnapshot();
        x.undo();
        Check.same("the day", 0, x.day());
        x.restoreSnapshot();
        Check.same("the day", 1, x.day());
        x.undo();
        Check.same("the day", 0, x.day());
        x.restoreSnapshot();
        Check.same("the day", 1, x.day());
    }

    @Says(promise = 50, value = STAYS)
    private static void twentyPamphlets() {
        PamphletQuarrel x = Stand.full();
        x.takeSnapshot();
        x.withdraw();
        Check.same("twenty", 20, x.restoreSnapshot());
        Check.same("restored", Picture.of(Stand.full()), Picture.of(x));
    }

    @Says(promise = 50, value = STAYS)
    private static void notTheBufferNorTheSavedStates() {
        PamphletQuarrel x = new PamphletQuarrel();
        Picture.type(x, "abc");
        x.takeSnapshot();
        x.clearText();
        Picture.type(x, "de");
        x.pass(3);
        x.restoreSnapshot();
        Check.same("saved", 2, x.savedStates());
        Check.same("characters", 2, x.clearText());
    }

    @Says(promise = 50, value = "Undoable")
    private static void restoringIsUndone() {
        PamphletQuarrel x = Stand.rich();
        String before = Picture.whole(x).replace("saved 5", "saved 4");
        Check.same("two pamphlets", 2, x.restoreSnapshot());
        Check.same("saved", 5, x.savedStates());
        Check.same("left", 4, x.undo());
        Check.same("undone", before, Picture.whole(x));
    }

    @Says(promise = 50, value = "Undoable")
    private static void restoringTheSameIsUndoneToo() {
        PamphletQuarrel x = new PamphletQuarrel();
        x.takeSnapshot();
        x.restoreSnapshot();
        Check.same("saved", 1, x.savedStates());
        Check.same("left", 0, x.undo());
    }

    @Says(promise = 50, value = THEN)
    private static void noPamphletsToTwentyThen() {
        PamphletQuarrel x = new PamphletQuarrel();
        x.takeSnapshot();
        Check.same("none", 0, x.restoreSnapshot());
        PamphletQuarrel y = Stand.many(20);
        y.takeSnapshot();
        y.withdraw();
        y.withdraw();
        Check.same("twenty", 20, y.restoreSnapshot());
        Check.same("the last one", (int) 't', y.letterOf(19, 0, 0));
    }

    @Says(promise = 50, value = NO_SNAPSHOT)
    private static void noSnapshotYet() {
        Refused.state(PamphletQuarrel::new, x -> x.restoreSnapshot());
        Refused.state(Stand::empty, x -> x.restoreSnapshot());
        Refused.state(() -> Picture.daily("a", "\"b\"@0", "c"), x -> x.restoreSnapshot());
    }

    @Says(promise = 50, value = NO_SNAPSHOT)
    private static void onceTakenNeverRefused() {
        PamphletQuarrel x = new PamphletQuarrel();
        Check.refuses("before", IllegalStateException.class, x::restoreSnapshot);
        x.takeSnapshot();
        for (int i = 1; i <= 7; i++) {
            Check.same("none", 0, x.restoreSnapshot());
            Check.same("saved", i < 5 ? i : 5, x.savedStates());
        }
    }
}
