import com.sun.management.ThreadMXBean;
import java.lang.management.ManagementFactory;

/** All that the calls of a run make is counted: objects and their calls must make little. */
public final class RoomTest {
    private static final int OBJECTS = 40;
    // The room is 7.3 million fields and elements; 40 objects shall not need a half of it, and
    // some 2,400 calls not a tenth.
    private static final long BYTES_OF_AN_OBJECT = 700_000L;
    private static final long BYTES_OF_THE_CALLS = 5_000_000L;

    private static final ThreadMXBean THREADS =
            (ThreadMXBean) ManagementFactory.getThreadMXBean();

    private static long answers = 0;

    private RoomTest() {
    }

    public static void main(String[] args) {
        anObject();
        PamphletQuarrel[] prepared = new PamphletQuarrel[OBJECTS];
        for (int i = 0; i < OBJECTS; i++) {
            prepared[i] = Picture.daily("a b c d e f g h", "x \"a b x d\"@0 \"f\"@0", "\"b x\"@1");
        }
        allCalls(prepared[0]);
        THREADS.getCurrentThreadAllocatedBytes();
        long before = THREADS.getCurrentThreadAllocatedBytes();
        for (int i = 1; i < OBJECTS; i++) {
            allCalls(prepared[i]);
        }
        long made = THREADS.getCurrentThreadAllocatedBytes() - before;
        Check.same("made by calls, bytes: " + made, true, made < BYTES_OF_THE_CALLS);
        Check.same("the calls answered", true, answers != 0);
        Check.end();
    }

    private static void anObject() {
        new PamphletQuarrel();
        long before = THREADS.getCurrentThreadAllocatedBytes();
        new PamphletQuarrel();
        long made = THREADS.getCurrentThreadAllocatedBytes() - before;
        Check.same("made by an object, bytes: " + made, true, made < BYTES_OF_AN_OBJECT);
    }

    private static void allCalls(PamphletQuarrel x) {
        changes(x);
        answers += x.day() + x.pamphlets() + x.authorOf(1) + x.dayOf(1) + x.wordsOf(1);
        answers += x.pagesOf(1) + x.wordsOn(1, 0) + x.letterOf(1, 0, 0) + x.whyNotPrinted();
        answers += x.isSameWord(1, 0, 0, 0) ? 1 : 0;
        answers += x.quotationsOf(1) + x.sourceOf(1, 0) + x.beginOf(1, 0) + x.lengthOf(1, 0);
        answers += x.changesByTable(1, 0) + x.changesByPassages(1, 0) + x.passageOf(1, 0);
        answers += x.passageLength(1, 0) + x.pageOf(1, 0) + x.comesFrom(2, 0) + x.originOf(2, 0);
        answers += x.traceOf(2, 0) + x.changesAtOrigin(2, 0) + x.quotedAgain(1, 0);
        answers += x.blameOf(0) + x.wrongs(0, 0) + x.blameByAuthors() + x.blameBySources();
        answers += x.faithfulShare() > 0.5 ? 1 : 0;
        answers += x.answers(1, 0) ? 1 : 0;
        answers += x.ladderOf(2) + x.laddersOf(2) + x.readingOf(2) + x.readAt(2, 1);
        answers += x.glossary() + x.timesOf(0) + x.glossaryLetter(0, 0);
    }

    private static void changes(PamphletQuarrel x) {
        answers += x.takeSnapshot() + x.mend(1, 0) + x.mendAll() + x.undo() + x.pass(3);
        answers += x.restoreSnapshot() + x.append('a') + x.errorPosition() + x.print(1);
        answers += x.withdraw() + x.append('b') + x.clearText() + x.savedStates();
    }
}
