import java.util.ArrayList;
import java.util.List;
import java.util.function.Consumer;

/** Whole quarrels: print, pass, mend, mendAll, withdraw, undo and the snapshot, then the answers. */
public final class RunsTest {
    private static final Class<IllegalStateException> STATE = IllegalStateException.class;
    private static final Class<IndexOutOfBoundsException> INDEX = IndexOutOfBoundsException.class;

    private RunsTest() {
    }

    public static void main(String[] args) {
        theKing();
        theKingMended();
        theKingMendedAndBack();
        sourcesOfThisDay();
        errataMoveWords();
        errataTakeWordsAway();
        laddersComeAndGo();
        backThroughAllSteps();
        Check.end();
    }

    private static void quotation(String due, PamphletQuarrel x, int pamphlet, int quotation) {
        Check.same("the quotation " + quotation + " of " + pamphlet, due,
                Picture.quotation(x, pamphlet, quotation)
                + ": " + Picture.passage(x, pamphlet, quotation)
                + " " + Picture.trace(x, pamphlet, quotation)
                + " again " + x.quotedAgain(pamphlet, quotation));
    }

    private static void blame(String due, PamphletQuarrel x) {
        Check.same("blame", due, x.blameOf(0) + " " + x.blameOf(1) + " " + x.blameOf(2)
                + ", all " + x.blameByAuthors() + " " + x.blameBySources()
                + ", of 0 " + x.wrongs(0, 0) + " " + x.wrongs(1, 0) + " " + x.wrongs(2, 0)
                + ", of 1 " + x.wrongs(0, 1) + " " + x.wrongs(1, 1) + " " + x.wrongs(2, 1));
    }

    // ---- five pamphlets about a king

    /** The days 0, 1, 1, 2 and 3; the day is 3 then. */
    private static PamphletQuarrel king() {
        PamphletQuarrel x = new PamphletQuarrel();
        Picture.print(x, 0, "the king is good to all men");
        x.pass(1);
        Picture.print(x, 1, "he says \"king is bad to all\"@0 and lies");
        Picture.print(x, 2, "\"the king is\"@0 a \"good man\"@0");
        x.pass(1);
        Picture.print(x, 0, "\"is bad to all and\"@1 \"the king\"@2 so");
        x.pass(1);
        Picture.print(x, 1, "\"bad to all\"@3 \"good men\"@0");
        return x;
    }

    private static void theKing() {
        PamphletQuarrel x = king();
        quotation("@0 2+5: 1 1 at 1+5 from -1 of 0 through 1 with 1 again 0", x, 1, 0);
        quotation("@0 0+3: 0 0 at 0+3 from -1 of 0 through 1 with 0 again 1", x, 2, 0);
        quotation("@0 4+2: 1 1 at 3+1 from -1 of 0 through 1 with 1 again 0", x, 2, 1);
        quotation("@1 0+5: 0 0 at 3+5 from -1 of 1 through 1 with 0 again 1", x, 3, 0);
        quotation("@2 5+2: 0 0 at 0+2 from 0 of 0 through 2 with 0 again 0", x, 3, 1);
        quotation("@3 0+3: 0 0 at 1+3 from 0 of 1 through 2 with 0 again 0", x, 4, 0);
        quotation("@0 3+2: 1 1 at 3+1 from -1 of 0 through 1 with 1 again 0", x, 4, 1);
        blame("0 2 1, all 3 3, of 0 0 2 1, of 1 0 0 0", x);
        Check.same("four of seven are faithful", 4.0 / 7.0, x.faithfulShare());
        Check.same("ladders of 3", "3 2: 0 1 2 3", Picture.ladders(x, 3));
        Check.same("ladders of 4", "4 3: 0 1 2 3 4", Picture.ladders(x, 4));
        Check.same("the glossary", "all4 is4 king4 to4 bad3 good3 the3 and2 men2"
                + " a1 he1 lies1 man1 says1 so1", Picture.glossary(x));
    }

    private static void theKingMended() {
        PamphletQuarrel x = king();
        Check.same("one change", 1, x.mend(1, 0));
        Check.same("the words of 1", "he says king is good to all and lies", Picture.words(x, 1));
        quotation("@0 2+5: 0 0 at 1+5 from -1 of 0 through 1 with 0 again 0", x, 1, 0);
        quotation("@1 0+5: 1 1 at 3+5 from -1 of 1 through 1 with 1 again 1", x, 3, 0);
        quotation("@3 0+3: 0 0 at 1+3 from 0 of 1 through 2 with 1 again 0", x, 4, 0);
        blame("1 1 1, all 3 3, of 0 0 1 1, of 1 1 0 0", x);
        Check.same("the others", 4, x.mendAll());
        Check.same("the words of 2", "the king is a good", Picture.words(x, 2));
        Check.same("the words of 3", "is good to all and the king so", Picture.words(x, 3));
        Check.same("the words of 4", "good to all good", Picture.words(x, 4));
        quotation("@3 0+3: 0 0 at 1+3 from 0 of 1 through 2 with 0 again 0", x, 4, 0);
        quotation("@0 3+1: 0 0 at 3+1 from -1 of 0 through 1 with 0 again 0", x, 4, 1);
        blame("0 0 0, all 0 0, of 0 0 0 0, of 1 0 0 0", x);
        Check.same("all are faithful", 1.0, x.faithfulShare());
        Check.same("nothing is left", 0, x.mendAll());
    }

    private static void theKingMendedAndBack() {
        PamphletQuarrel x = king();
        Check.same("snapshot", 5, x.takeSnapshot());
        x.mend(1, 0);
        x.mendAll();
        Check.same("of this day", 4, x.withdraw());
        Check.same("not quoted again", 0, x.quotedAgain(3, 0));
        Check.refuses("of the day before", STATE, x::withdraw);
        Check.same("the withdrawn one is back", 4, x.undo());
        Check.same("the words of 4", "good to all good", Picture.words(x, 4));
        Check.same("before mendAll", 3, x.undo());
        Check.same("the words of 4", "bad to all good men", Picture.words(x, 4));
        Check.same("before mend", 2, x.undo());
        Check.same("a word of 1", "bad", Picture.word(x, 1, 4));
        Check.same("before print", 1, x.undo());
        Check.same("the buffer stays empty", 0, x.errorPosition());
        Check.refuses("no pamphlet 4", INDEX, () -> x.wordsOf(4));
        Check.same("ladders of 3", "3 2: 0 1 2 3", Picture.ladders(x, 3));
        Check.same("the snapshot", 5, x.restoreSnapshot());
        Check.same("saved", 2, x.savedStates());
        Check.same("of before mend", "he says king is bad to all and lies", Picture.words(x, 1));
        blame("0 2 1, all 3 3, of 0 0 2 1, of 1 0 0 0", x);
        x.pass(1);
        Check.refuses("of the day before", STATE, x::withdraw);
        x.undo();
        Check.same("of this day again", 4, x.withdraw());
    }

    // ---- days, sources and numbers

    private static void sourcesOfThisDay() {
        PamphletQuarrel x = new PamphletQuarrel();
        Picture.print(x, 3, "a b c d");
        Picture.type(x, "\"a\"@0");
        Check.same("of this day", 4, x.whyNotPrinted());
        Check.refuses("of this day", STATE, () -> x.print(4));
        x.pass(1);
        Check.same("of the day before", 1, x.print(4));
        Check.same("withdrawn", 1, x.withdraw());
        Picture.type(x, "\"b c\"@0 \"a\"@1");
        Check.same("no such source", 3, x.whyNotPrinted());
        Check.same("days", 101, x.pass(100));
        Check.same("no such source ever", 3, x.whyNotPrinted());
        x.undo();
        x.undo();
        Check.same("its source is back, of this day", 4, x.whyNotPrinted());
        Check.same("days", 3, x.pass(2));
        Check.same("printed", 2, x.print(5));
        quotation("@1 2+1: 0 0 at 0+1 from 0 of 0 through 2 with 0 again 0", x, 2, 1);
        quotation("@0 0+1: 0 0 at 0+1 from -1 of 0 through 1 with 0 again 1", x, 1, 0);
        Check.same("ladders", "3 2: 0 1 2", Picture.ladders(x, 2));
        x.undo();
        Check.same("the buffer stays empty", 0, x.clearText());
        Check.same("not quoted again", 0, x.quotedAgain(1, 0));
        Check.refuses("of an earlier day", STATE, x::withdraw);
        x.undo();
        Check.same("of this day again", 1, x.withdraw());
        Check.same("the day", 1, x.day());
        Picture.print(x, 6, "e");
        Check.same("another one with this number", "a b c d; e",
                Picture.words(x, 0) + "; " + Picture.words(x, 1));
        Check.same("its author", 6, x.authorOf(1));
    }

    // ---- errata and what others quote

    private static void errataMoveWords() {
        PamphletQuarrel x = Picture.daily("a b c d e f", "x \"a b d e\"@0 y \"f\"@0",
                "\"e y\"@1 \"c d\"@1", "\"e\"@2 \"y\"@1 \"f\"@1");
        quotation("@0 1+4: 1 1 at 0+5 from -1 of 0 through 1 with 1 again 1", x, 1, 0);
        quotation("@1 0+2: 0 0 at 4+2 from -1 of 1 through 1 with 0 again 1", x, 2, 0);
        quotation("@1 2+2: 1 1 at 2+2 from 0 of 0 through 2 with 0 again 0", x, 2, 1);
        quotation("@1 1+1: 0 0 at 5+1 from -1 of 1 through 1 with 0 again 0", x, 3, 1);
        quotation("@1 2+1: 0 0 at 6+1 from 1 of 0 through 2 with 0 again 0", x, 3, 2);
        Check.same("the page of the last word", 0, x.pageOf(3, 2));
        Check.same("one change", 1, x.mend(1, 0));
        Check.same("the words", "x a b c d e y f", Picture.words(x, 1));
        quotation("@0 1+5: 0 0 at 0+5 from -1 of 0 through 1 with 0 again 1", x, 1, 0);
        quotation("@0 7+1: 0 0 at 5+1 from -1 of 0 through 1 with 0 again 1", x, 1, 1);
        quotation("@1 0+2: 0 0 at 5+2 from -1 of 1 through 1 with 0 again 1", x, 2, 0);
        quotation("@1 2+2: 0 0 at 3+2 from 0 of 0 through 2 with 0 again 0", x, 2, 1);
        quotation("@2 0+1: 0 0 at 0+1 from 0 of 1 through 2 with 0 again 0", x, 3, 0);
        quotation("@1 1+1: 0 0 at 6+1 from -1 of 1 through 1 with 0 again 0", x, 3, 1);
        quotation("@1 2+1: 0 0 at 7+1 from 1 of 0 through 2 with 0 again 0", x, 3, 2);
        Check.same("all are faithful by one mending", 1.0, x.faithfulShare());
    }

    private static void errataTakeWordsAway() {
        PamphletQuarrel x = Picture.daily("a b", "\"a q\"@0 y", "\"q\"@1 \"q y\"@1", "\"q\"@2");
        quotation("@1 0+1: 0 0 at 1+1 from 0 of 0 through 2 with 1 again 1", x, 2, 0);
        quotation("@1 1+2: 0 0 at 1+2 from -1 of 1 through 1 with 0 again 0", x, 2, 1);
        quotation("@2 0+1: 0 0 at 0+1 from 0 of 0 through 3 with 1 again 0", x, 3, 0);
        Check.same("one of four is not faithful", 0.75, x.faithfulShare());
        Check.same("one change", 1, x.mend(1, 0));
        Check.same("the words", "a y", Picture.words(x, 1));
        quotation("@1 0+1: 1 1 at 0+1 from 0 of 0 through 2 with 1 again 1", x, 2, 0);
        quotation("@1 1+2: 1 1 at 0+2 from -1 of 1 through 1 with 1 again 0", x, 2, 1);
        Check.same("two of four are", 0.5, x.faithfulShare());
        Check.same("one change", 1, x.mend(2, 0));
        quotation("@2 0+1: 0 0 at 1+1 from 1 of 1 through 2 with 1 again 0", x, 3, 0);
        Check.same("the one that is left", 2, x.mendAll());
        Check.same("the words", "a a y; a",
                Picture.words(x, 2) + "; " + Picture.words(x, 3));
        quotation("@2 0+1: 0 0 at 0+1 from 0 of 0 through 3 with 0 again 0", x, 3, 0);
    }

    // ---- ladders

    private static void laddersComeAndGo() {
        PamphletQuarrel x = Picture.daily("a", "b", "\"a\"@0 \"b\"@1", "\"a\"@2 \"a\"@0");
        Picture.print(x, 0, "\"a\"@3 \"b\"@1 \"a\"@2");
        Check.same("ladders of 4", "4 6: 0 1 2 3 4", Picture.ladders(x, 4));
        x.takeSnapshot();
        x.withdraw();
        Picture.print(x, 0, "\"b\"@1 \"b\"@2");
        Check.same("ladders of another 4", "3 3: 0 1 2 4", Picture.ladders(x, 4));
        x.mendAll();
        Check.same("errata change no ladders", "3 3: 0 1 2 4", Picture.ladders(x, 4));
        x.restoreSnapshot();
        Check.same("ladders of 4 again", "4 6: 0 1 2 3 4", Picture.ladders(x, 4));
        Check.same("it answers 3", true, x.answers(4, 3));
        x.undo();
        Check.same("ladders of another 4 again", "3 3: 0 1 2 4", Picture.ladders(x, 4));
        Check.same("it does not answer 3", false, x.answers(4, 3));
        x.undo();
        x.undo();
        Check.refuses("withdrawn", INDEX, () -> x.ladderOf(4));
        Check.same("ladders of 3", "3 3: 0 1 2 3", Picture.ladders(x, 3));
    }

    // ---- undo, as if the calls had not been

    private static List<Consumer<PamphletQuarrel>> steps() {
        List<Consumer<PamphletQuarrel>> steps = new ArrayList<>();
        steps.add(x -> Picture.print(x, 0, "a b c d e"));
        steps.add(x -> x.pass(1));
        steps.add(x -> Picture.print(x, 1, "\"a b d e\"@0 f"));
        steps.add(x -> x.pass(2));
        steps.add(x -> Picture.print(x, 2, "\"d f\"@1 \"d x e\"@0"));
        steps.add(x -> x.mend(1, 0));
        steps.add(PamphletQuarrel::mendAll);
        steps.add(PamphletQuarrel::withdraw);
        steps.add(x -> Picture.print(x, 3, "\"e g\"@1"));
        steps.add(PamphletQuarrel::restoreSnapshot);
        steps.add(x -> x.mend(2, 1));
        steps.add(PamphletQuarrel::mendAll);
        steps.add(PamphletQuarrel::restoreSnapshot);
        steps.add(x -> x.pass(100));
        return steps;
    }

    // The snapshot is taken behind the fifth step.
    private static PamphletQuarrel after(int count) {
        PamphletQuarrel x = new PamphletQuarrel();
        for (int i = 0; i < count; i++) {
            steps().get(i).accept(x);
            if (i == 4) {
                x.takeSnapshot();
            }
        }
        return x;
    }

    private static String withoutSaved(PamphletQuarrel x) {
        return Picture.whole(x).replaceFirst("saved \\d", "");
    }

    private static void backThroughAllSteps() {
        for (int count = 0; count <= steps().size(); count++) {
            int saved = Math.min(count, 5);
            for (int undone = 0; undone <= saved; undone++) {
                PamphletQuarrel x = after(count);
                for (int i = 1; i <= undone; i++) {
                    Check.same("left of " + count, saved - i, x.undo());
                }
                Check.same(undone + " of " + count + " steps undone",
                        withoutSaved(after(count - undone)), withoutSaved(x));
            }
            PamphletQuarrel x = after(count);
            for (int i = 0; i < saved; i++) {
                x.undo();
            }
            Check.refuses("more than " + saved + " of " + count, STATE, x::undo);
        }
    }
}
