// A quarrel of pamphlets that quote and misquote each other; ../shared/DOC.md says what it does.
// The methods of the face look at their arguments and throw; the classes inside do the work.
// Every row is made with the object: calls make nothing, because what all calls make is counted.
public final class PamphletQuarrel {
    /** There is none. */
    public static final int NONE = -1;

    private static final int MOST_PAMPHLETS = 20;
    private static final int AUTHORS = 8;
    private static final int MOST_DAYS = 100;
    private static final int MOST_CHARACTERS = 100;
    private static final int FIRST_CODE = 32;
    private static final int LAST_CODE = 126;
    private static final int MOST_LETTERS = 7;
    private static final int WORDS_ON_A_PAGE = 8;
    private static final int MOST_SAVED = 5;

    // A text has at most 50 words; only errata bring a pamphlet up to this.
    private static final int MOST_WORDS = 60;

    // The shortest quotation and a blank are 6 characters: 17 of them do not go into a text.
    private static final int MOST_QUOTATIONS = 16;

    private static final int NO_REASON = 0;
    private static final int TOO_MANY_PAMPHLETS = 1;
    private static final int NOT_A_TEXT = 2;
    private static final int NO_SUCH_SOURCE = 3;
    private static final int SOURCE_OF_THIS_DAY = 4;

    private final State state = new State();
    private final History history = new History();
    private final Buffer buffer = new Buffer();
    private final Reader reader = new Reader();
    private final Quotations quotations = new Quotations();
    private final Ladders ladders = new Ladders();
    private final Glossary glossary = new Glossary();

    public PamphletQuarrel() {
    }

    // ---- changes

    public int print(int author) throws IllegalArgumentException, IllegalStateException {
        if (!isAuthor(author)) {
            throw new IllegalArgumentException("the author is out of range");
        }
        if (whyNotPrinted() > NO_REASON) {
            throw new IllegalStateException("the buffer cannot be printed");
        }
        history.save(state);
        state.add(reader.text, author);
        buffer.length = 0;
        return state.count - 1;
    }

    public int pass(int days) throws IllegalArgumentException {
        if (days < 1 || days > MOST_DAYS) {
            throw new IllegalArgumentException("the days are out of range");
        }
        history.save(state);
        state.today += days;
        return state.today;
    }

    public int mend(int pamphlet, int quotation)
            throws IndexOutOfBoundsException, IllegalStateException {
        needQuotation(pamphlet, quotation);
        int changes = quotations.find(state, pamphlet, quotation);
        if (changes == 0) {
            throw new IllegalStateException("the quotation is faithful");
        }
        if (!quotations.isRoomFor(state, pamphlet, quotation)) {
            throw new IllegalStateException("the pamphlet would have too many words");
        }
        history.save(state);
        quotations.putRight(state, pamphlet, quotation);
        return changes;
    }

    public int mendAll() {
        history.save(state);
        int mended = 0;
        for (int pamphlet = 0; pamphlet < state.count; pamphlet++) {
            mended += quotations.putAllRight(state, pamphlet);
        }
        return mended;
    }

    public int withdraw() throws IllegalStateException {
        if (state.count == 0) {
            throw new IllegalStateException("there are no pamphlets");
        }
        if (state.at(state.count - 1).printedOn != state.today) {
            throw new IllegalStateException("the last pamphlet was not printed on this day");
        }
        history.save(state);
        state.count--;
        return state.count;
    }

    // ---- pamphlets

    public int day() {
        return state.today;
    }

    public int pamphlets() {
        return state.count;
    }

    public int authorOf(int pamphlet) throws IndexOutOfBoundsException {
        needPamphlet(pamphlet);
        return state.at(pamphlet).author;
    }

    public int dayOf(int pamphlet) throws IndexOutOfBoundsException {
        needPamphlet(pamphlet);
        return state.at(pamphlet).printedOn;
    }

    public int wordsOf(int pamphlet) throws IndexOutOfBoundsException {
        needPamphlet(pamphlet);
        return state.at(pamphlet).wordCount;
    }

    public int pagesOf(int pamphlet) throws IndexOutOfBoundsException {
        needPamphlet(pamphlet);
        return state.at(pamphlet).pageCount();
    }

    public int wordsOn(int pamphlet, int page) throws IndexOutOfBoundsException {
        needPamphlet(pamphlet);
        Pamphlet found = state.at(pamphlet);
        if (page < 0 || page >= found.pageCount()) {
            throw new IndexOutOfBoundsException("there is no such page");
        }
        return Math.min(WORDS_ON_A_PAGE, found.wordCount - page * WORDS_ON_A_PAGE);
    }

    public int letterOf(int pamphlet, int word, int index) throws IndexOutOfBoundsException {
        needWord(pamphlet, word);
        needIndex(index);
        return letterIn(state.at(pamphlet).words.at(word), index);
    }

    public boolean isSameWord(int pamphlet, int word, int other, int otherWord)
            throws IndexOutOfBoundsException {
        needWord(pamphlet, word);
        needWord(other, otherWord);
        return state.at(pamphlet).words.at(word) == state.at(other).words.at(otherWord);
    }

    public int whyNotPrinted() {
        if (state.count >= MOST_PAMPHLETS) {
            return TOO_MANY_PAMPHLETS;
        }
        reader.read(buffer);
        if (!reader.isAtEndOfText(buffer)) {
            return NOT_A_TEXT;
        }
        if (!state.hasSourcesOf(reader.text)) {
            return NO_SUCH_SOURCE;
        }
        return state.isSourceOfToday(reader.text) ? SOURCE_OF_THIS_DAY : NO_REASON;
    }

    // ---- quotations

    public int quotationsOf(int pamphlet) throws IndexOutOfBoundsException {
        needPamphlet(pamphlet);
        return state.at(pamphlet).quotationCount;
    }

    public int sourceOf(int pamphlet, int quotation) throws IndexOutOfBoundsException {
        needQuotation(pamphlet, quotation);
        return state.at(pamphlet).sources.number(quotation);
    }

    public int beginOf(int pamphlet, int quotation) throws IndexOutOfBoundsException {
        needQuotation(pamphlet, quotation);
        return state.at(pamphlet).begins.number(quotation);
    }

    public int lengthOf(int pamphlet, int quotation) throws IndexOutOfBoundsException {
        needQuotation(pamphlet, quotation);
        return state.at(pamphlet).lengths.number(quotation);
    }

    public int changesByTable(int pamphlet, int quotation) throws IndexOutOfBoundsException {
        needQuotation(pamphlet, quotation);
        return quotations.find(state, pamphlet, quotation);
    }

    public int changesByPassages(int pamphlet, int quotation) throws IndexOutOfBoundsException {
        needQuotation(pamphlet, quotation);
        return quotations.findByPassages(state, pamphlet, quotation);
    }

    public int passageOf(int pamphlet, int quotation) throws IndexOutOfBoundsException {
        needQuotation(pamphlet, quotation);
        quotations.find(state, pamphlet, quotation);
        return quotations.search.begin;
    }

    public int passageLength(int pamphlet, int quotation) throws IndexOutOfBoundsException {
        needQuotation(pamphlet, quotation);
        quotations.find(state, pamphlet, quotation);
        return quotations.search.length;
    }

    public int pageOf(int pamphlet, int quotation) throws IndexOutOfBoundsException {
        needQuotation(pamphlet, quotation);
        quotations.find(state, pamphlet, quotation);
        return quotations.search.begin / WORDS_ON_A_PAGE;
    }

    public int comesFrom(int pamphlet, int quotation) throws IndexOutOfBoundsException {
        needQuotation(pamphlet, quotation);
        return quotations.parent(state, pamphlet, quotation);
    }

    public int originOf(int pamphlet, int quotation) throws IndexOutOfBoundsException {
        needQuotation(pamphlet, quotation);
        quotations.trace(state, pamphlet, quotation);
        return quotations.origin;
    }

    public int traceOf(int pamphlet, int quotation) throws IndexOutOfBoundsException {
        needQuotation(pamphlet, quotation);
        quotations.trace(state, pamphlet, quotation);
        return quotations.traced;
    }

    public int changesAtOrigin(int pamphlet, int quotation) throws IndexOutOfBoundsException {
        needQuotation(pamphlet, quotation);
        quotations.trace(state, pamphlet, quotation);
        return quotations.findAtOrigin(state, pamphlet, quotation);
    }

    public int quotedAgain(int pamphlet, int quotation) throws IndexOutOfBoundsException {
        needQuotation(pamphlet, quotation);
        return quotations.children(state, pamphlet, quotation);
    }

    // ---- blame

    public int blameOf(int author) throws IndexOutOfBoundsException {
        needAuthor(author);
        return quotations.changesWritten(state, author, NONE);
    }

    public int wrongs(int author, int other) throws IndexOutOfBoundsException {
        needAuthor(author);
        needAuthor(other);
        return quotations.changesWritten(state, author, other);
    }

    public int blameByAuthors() {
        int changes = 0;
        for (int author = 0; author < AUTHORS; author++) {
            changes += quotations.changesWritten(state, author, NONE);
        }
        return changes;
    }

    public int blameBySources() {
        int changes = 0;
        for (int source = 0; source < state.count; source++) {
            changes += quotations.changesSuffered(state, source);
        }
        return changes;
    }

    public double faithfulShare() {
        int all = 0;
        int faithful = 0;
        for (int pamphlet = 0; pamphlet < state.count; pamphlet++) {
            all += state.at(pamphlet).quotationCount;
            faithful += quotations.faithfulIn(state, pamphlet);
        }
        return all == 0 ? 0.0 : (double) faithful / (double) all;
    }

    // ---- ladders and reading

    public boolean answers(int pamphlet, int other) throws IndexOutOfBoundsException {
        needPamphlet(pamphlet);
        needPamphlet(other);
        return state.at(pamphlet).quotes(other);
    }

    public int ladderOf(int pamphlet) throws IndexOutOfBoundsException {
        needPamphlet(pamphlet);
        return ladders.longest(state, pamphlet);
    }

    public int laddersOf(int pamphlet) throws IndexOutOfBoundsException {
        needPamphlet(pamphlet);
        return ladders.fromTheGround(state, pamphlet);
    }

    public int readingOf(int pamphlet) throws IndexOutOfBoundsException {
        needPamphlet(pamphlet);
        return ladders.gatherReading(state, pamphlet);
    }

    public int readAt(int pamphlet, int place) throws IndexOutOfBoundsException {
        needPamphlet(pamphlet);
        needPlace(place, ladders.gatherReading(state, pamphlet));
        return ladders.readIn(place);
    }

    // ---- the glossary

    public int glossary() {
        glossary.gather(state);
        return glossary.size;
    }

    public int timesOf(int place) throws IndexOutOfBoundsException {
        glossary.gather(state);
        needPlace(place, glossary.size);
        return glossary.times.number(place);
    }

    public int glossaryLetter(int place, int index) throws IndexOutOfBoundsException {
        glossary.gather(state);
        needPlace(place, glossary.size);
        needIndex(index);
        return letterIn(glossary.entries.at(place), index);
    }

    // ---- the buffer

    public int append(int code) throws IllegalArgumentException, IllegalStateException {
        if (code < FIRST_CODE || code > LAST_CODE) {
            throw new IllegalArgumentException("the code is out of range");
        }
        if (buffer.length >= MOST_CHARACTERS) {
            throw new IllegalStateException("the buffer is full");
        }
        buffer.add(code);
        return buffer.length;
    }

    public int clearText() {
        int length = buffer.length;
        buffer.length = 0;
        return length;
    }

    public int errorPosition() {
        reader.read(buffer);
        return reader.position;
    }

    // ---- undo and the snapshot

    public int undo() throws IllegalStateException {
        if (history.size == 0) {
            throw new IllegalStateException("no state is saved");
        }
        history.takeBack(state);
        return history.size;
    }

    public int savedStates() {
        return history.size;
    }

    public int takeSnapshot() {
        history.snapshot.copy(state);
        history.hasSnapshot = true;
        return state.count;
    }

    public int restoreSnapshot() throws IllegalStateException {
        if (!history.hasSnapshot) {
            throw new IllegalStateException("there is no snapshot");
        }
        history.save(state);
        state.copy(history.snapshot);
        return state.count;
    }

    // ---- what arguments must be

    private static boolean isAuthor(int author) {
        return author >= 0 && author < AUTHORS;
    }

    private static void needAuthor(int author) {
        if (!isAuthor(author)) {
            throw new IndexOutOfBoundsException("there is no such author");
        }
    }

    private void needPamphlet(int pamphlet) {
        if (!state.has(pamphlet)) {
            throw new IndexOutOfBoundsException("there is no such pamphlet");
        }
    }

    private void needWord(int pamphlet, int word) {
        needPamphlet(pamphlet);
        if (word < 0 || word >= state.at(pamphlet).wordCount) {
            throw new IndexOutOfBoundsException("there is no such word");
        }
    }

    private void needQuotation(int pamphlet, int quotation) {
        needPamphlet(pamphlet);
        if (quotation < 0 || quotation >= state.at(pamphlet).quotationCount) {
            throw new IndexOutOfBoundsException("there is no such quotation");
        }
    }

    private static void needPlace(int place, int places) {
        if (place < 0 || place >= places) {
            throw new IndexOutOfBoundsException("there is no such place");
        }
    }

    private static void needIndex(int index) {
        if (index < 0) {
            throw new IndexOutOfBoundsException("the index is below 0");
        }
    }

    // ---- words as numbers

    // Five bits a letter, the first letter highest and nothing behind the last one,
    // so that the order of the numbers is the order of a dictionary.
    private static final int LETTER_BITS = 5;
    private static final int LETTER_MASK = 31;

    private static long withLetter(long word, int index, int code) {
        return word | (long) (code - 'a' + 1) << LETTER_BITS * (MOST_LETTERS - 1 - index);
    }

    private static int letterIn(long word, int index) {
        if (index < 0 || index >= MOST_LETTERS) {
            return NONE;
        }
        int letter = (int) (word >> LETTER_BITS * (MOST_LETTERS - 1 - index)) & LETTER_MASK;
        return letter == 0 ? NONE : 'a' + letter - 1;
    }

    /** A row of numbers or words; it looks at each place first, so that none is out of bounds. */
    private static final class Row {
        private final long[] cells;

        Row(int length) {
            cells = new long[Math.max(length, 0)];
        }

        long at(int place) {
            return place >= 0 && place < cells.length ? cells[place] : 0L;
        }

        int number(int place) {
            return place >= 0 && place < cells.length ? (int) cells[place] : 0;
        }

        void put(int place, long value) {
            if (place >= 0 && place < cells.length) {
                cells[place] = value;
            }
        }

        void copy(Row other, int count) {
            if (count > 0 && count <= cells.length && count <= other.cells.length) {
                System.arraycopy(other.cells, 0, cells, 0, count);
            }
        }

        void move(int from, int to, int count) {
            if (from >= 0 && to >= 0 && count > 0
                    && count <= cells.length - from && count <= cells.length - to) {
                System.arraycopy(cells, from, cells, to, count);
            }
        }
    }

    /** The words and quotations of a pamphlet, and who printed it when. */
    private static final class Pamphlet {
        private final Row words = new Row(MOST_WORDS);
        private final Row sources = new Row(MOST_QUOTATIONS);
        private final Row begins = new Row(MOST_QUOTATIONS);
        private final Row lengths = new Row(MOST_QUOTATIONS);
        private int author;
        private int printedOn;
        private int wordCount;
        private int quotationCount;

        void copy(Pamphlet other) {
            author = other.author;
            printedOn = other.printedOn;
            wordCount = other.wordCount;
            quotationCount = other.quotationCount;
            words.copy(other.words, wordCount);
            sources.copy(other.sources, quotationCount);
            begins.copy(other.begins, quotationCount);
            lengths.copy(other.lengths, quotationCount);
        }

        void empty() {
            wordCount = 0;
            quotationCount = 0;
        }

        void addWord(long word) {
            words.put(wordCount, word);
            wordCount++;
        }

        void addQuotation(int source, int begin) {
            sources.put(quotationCount, source);
            begins.put(quotationCount, begin);
            lengths.put(quotationCount, wordCount - begin);
            quotationCount++;
        }

        int pageCount() {
            return (wordCount + WORDS_ON_A_PAGE - 1) / WORDS_ON_A_PAGE;
        }

        boolean quotes(int source) {
            for (int quotation = 0; quotation < quotationCount; quotation++) {
                if (sources.number(quotation) == source) {
                    return true;
                }
            }
            return false;
        }

        boolean isWithin(int quotation, int first, int count) {
            int begin = begins.number(quotation);
            return first >= begin && first + count <= begin + lengths.number(quotation);
        }

        int quotationAround(int first, int count) {
            for (int quotation = 0; quotation < quotationCount; quotation++) {
                if (isWithin(quotation, first, count)) {
                    return quotation;
                }
            }
            return NONE;
        }

        int growth(int quotation, int count) {
            return count - lengths.number(quotation);
        }

        void replace(int quotation, Pamphlet source, int first, int count) {
            int begin = begins.number(quotation);
            int end = begin + lengths.number(quotation);
            int growth = growth(quotation, count);
            words.move(end, end + growth, wordCount - end);
            for (int i = 0; i < count; i++) {
                words.put(begin + i, source.words.at(first + i));
            }
            wordCount += growth;
            lengths.put(quotation, count);
            for (int later = quotation + 1; later < quotationCount; later++) {
                begins.put(later, begins.number(later) + growth);
            }
        }
    }

    /** What undo and the snapshot bring back. */
    private static final class State {
        private final Pamphlet[] printed = new Pamphlet[MOST_PAMPHLETS];
        // Stands in where there is no pamphlet, so that no reference is null.
        private final Pamphlet blank = new Pamphlet();
        private int count;
        private int today;

        State() {
            for (int i = 0; i < printed.length; i++) {
                printed[i] = new Pamphlet();
            }
        }

        boolean has(int pamphlet) {
            return pamphlet >= 0 && pamphlet < count;
        }

        Pamphlet at(int pamphlet) {
            if (pamphlet < 0 || pamphlet >= printed.length) {
                return blank;
            }
            Pamphlet found = printed[pamphlet];
            return found == null ? blank : found;
        }

        void copy(State other) {
            count = other.count;
            today = other.today;
            for (int i = 0; i < count; i++) {
                at(i).copy(other.at(i));
            }
        }

        void add(Pamphlet text, int author) {
            Pamphlet place = at(count);
            place.copy(text);
            place.author = author;
            place.printedOn = today;
            count++;
        }

        boolean hasSourcesOf(Pamphlet text) {
            for (int quotation = 0; quotation < text.quotationCount; quotation++) {
                if (!has(text.sources.number(quotation))) {
                    return false;
                }
            }
            return true;
        }

        boolean isSourceOfToday(Pamphlet text) {
            for (int quotation = 0; quotation < text.quotationCount; quotation++) {
                if (at(text.sources.number(quotation)).printedOn == today) {
                    return true;
                }
            }
            return false;
        }
    }

    /** The saved states, the oldest first in a ring, and the snapshot. */
    private static final class History {
        private final State[] saved = new State[MOST_SAVED];
        private final State snapshot = new State();
        private boolean hasSnapshot;
        private int oldest;
        private int size;

        History() {
            for (int i = 0; i < saved.length; i++) {
                saved[i] = new State();
            }
        }

        private State slot(int place) {
            int index = (oldest + place) % MOST_SAVED;
            return index >= 0 && index < saved.length ? saved[index] : null;
        }

        void save(State state) {
            if (size == MOST_SAVED) {
                oldest = (oldest + 1) % MOST_SAVED;
                size--;
            }
            State slot = slot(size);
            if (slot != null) {
                slot.copy(state);
                size++;
            }
        }

        void takeBack(State state) {
            State slot = slot(size - 1);
            if (slot != null) {
                state.copy(slot);
                size--;
            }
        }
    }

    /** The characters that are to become a text. */
    private static final class Buffer {
        private final Row codes = new Row(MOST_CHARACTERS);
        private int length;

        void add(int code) {
            codes.put(length, code);
            length++;
        }
    }

    /** Reads the buffer, as far as it can begin a text, into the words and quotations of one. */
    private static final class Reader {
        private static final int BLANK = 32;
        private static final int QUOTE = 34;

        private static final int ERROR = 0;
        private static final int BEFORE_ITEM = 1;
        private static final int IN_WORD = 2;
        private static final int BEFORE_QUOTED = 3;
        private static final int IN_QUOTED = 4;
        private static final int AFTER_QUOTE = 5;
        private static final int BEFORE_NUMBER = 6;
        private static final int AFTER_ONE = 7;
        private static final int AFTER_NUMBER = 8;

        private final Pamphlet text = new Pamphlet();
        private int position;
        private int place;
        private int letters;
        private int begin;

        void read(Buffer buffer) {
            text.empty();
            position = 0;
            place = BEFORE_ITEM;
            while (position < buffer.length) {
                int next = placeAfter(buffer.codes.number(position));
                if (next == ERROR) {
                    return;
                }
                place = next;
                position++;
            }
        }

        boolean isAtEndOfText(Buffer buffer) {
            return position == buffer.length
                    && (place == IN_WORD || place == AFTER_ONE || place == AFTER_NUMBER);
        }

        private int placeAfter(int code) {
            switch (place) {
                case BEFORE_ITEM:
                    return code == QUOTE ? afterOpening() : afterFirstLetter(code, IN_WORD);
                case IN_WORD:
                    return code == BLANK ? BEFORE_ITEM : afterLetter(code);
                case BEFORE_QUOTED:
                    return afterFirstLetter(code, IN_QUOTED);
                case IN_QUOTED:
                    if (code == QUOTE) {
                        return AFTER_QUOTE;
                    }
                    return code == BLANK ? BEFORE_QUOTED : afterLetter(code);
                case AFTER_QUOTE:
                    return code == '@' ? BEFORE_NUMBER : ERROR;
                case BEFORE_NUMBER:
                    return afterFirstDigit(code);
                case AFTER_ONE:
                    return code == BLANK ? BEFORE_ITEM : afterSecondDigit(code);
                case AFTER_NUMBER:
                    return code == BLANK ? BEFORE_ITEM : ERROR;
                default:
                    return ERROR;
            }
        }

        private int afterOpening() {
            begin = text.wordCount;
            return BEFORE_QUOTED;
        }

        private int afterFirstLetter(int code, int next) {
            if (code < 'a' || code > 'z') {
                return ERROR;
            }
            text.addWord(withLetter(0L, 0, code));
            letters = 1;
            return next;
        }

        private int afterLetter(int code) {
            if (code < 'a' || code > 'z' || letters >= MOST_LETTERS) {
                return ERROR;
            }
            int last = text.wordCount - 1;
            text.words.put(last, withLetter(text.words.at(last), letters, code));
            letters++;
            return place;
        }

        private int afterFirstDigit(int code) {
            if (code < '0' || code > '9') {
                return ERROR;
            }
            text.addQuotation(code - '0', begin);
            return code == '1' ? AFTER_ONE : AFTER_NUMBER;
        }

        private int afterSecondDigit(int code) {
            if (code < '0' || code > '9') {
                return ERROR;
            }
            text.sources.put(text.quotationCount - 1, 10 + code - '0');
            return AFTER_NUMBER;
        }
    }

    /** Compares the words of a quotation with the passages of a pamphlet. */
    private static final class Search {
        // A cell is changes * CHANGE + the begin of the passage: the least cell has the least
        // changes and, of several passages with these, the one that begins first.
        private static final int CHANGE = 64;

        private final Row cells = new Row(MOST_WORDS + 1);
        private int changes;
        private int begin;
        private int length;

        void byTable(Pamphlet quoting, int quotation, Pamphlet source) {
            int from = quoting.begins.number(quotation);
            int end = from + quoting.lengths.number(quotation);
            for (int i = 0; i <= source.wordCount; i++) {
                cells.put(i, i);
            }
            for (int word = from; word < end; word++) {
                takeWord(quoting.words.at(word), source, 0, source.wordCount);
            }
            chooseEnd(source.wordCount);
        }

        // An empty passage has as many changes as the quotation has words. The passage of the one
        // word before it has no more and begins earlier, so that the end 0 alone must be left out.
        private void chooseEnd(int last) {
            int end = 1;
            for (int i = 2; i <= last; i++) {
                if (cells.number(i) < cells.number(end)) {
                    end = i;
                }
            }
            int least = cells.number(end);
            changes = least / CHANGE;
            begin = least % CHANGE;
            length = end - begin;
        }

        int byPassages(Pamphlet quoting, int quotation, Pamphlet source) {
            int count = quoting.lengths.number(quotation);
            // No passage of one word has more changes than the quotation has words.
            int least = count;
            for (int first = 0; first < source.wordCount; first++) {
                least = Math.min(least, leastFrom(first, quoting, quotation, source));
            }
            return least;
        }

        private int leastFrom(int first, Pamphlet quoting, int quotation, Pamphlet source) {
            int from = quoting.begins.number(quotation);
            int count = quoting.lengths.number(quotation);
            for (int i = 0; i <= count; i++) {
                cells.put(i, i * CHANGE);
            }
            int least = count;
            for (int last = first; last < source.wordCount; last++) {
                takeWord(source.words.at(last), quoting, from, count);
                least = Math.min(least, cells.number(count) / CHANGE);
            }
            return least;
        }

        // The cells tell the changes of a row of words and each beginning of the other words;
        // afterwards they tell them of that row with one more word.
        private void takeWord(long word, Pamphlet other, int from, int count) {
            int corner = cells.number(0);
            int left = corner + CHANGE;
            cells.put(0, left);
            for (int i = 1; i <= count; i++) {
                int above = cells.number(i);
                int across = other.words.at(from + i - 1) == word ? corner : corner + CHANGE;
                left = Math.min(across, Math.min(above, left) + CHANGE);
                cells.put(i, left);
                corner = above;
            }
        }
    }

    /** What quotations come from, what they change, and how they are mended. */
    private static final class Quotations {
        private final Search search = new Search();
        private int origin;
        private int traced;

        int find(State state, int pamphlet, int quotation) {
            Pamphlet quoting = state.at(pamphlet);
            search.byTable(quoting, quotation, state.at(quoting.sources.number(quotation)));
            return search.changes;
        }

        int findByPassages(State state, int pamphlet, int quotation) {
            Pamphlet quoting = state.at(pamphlet);
            Pamphlet source = state.at(quoting.sources.number(quotation));
            return search.byPassages(quoting, quotation, source);
        }

        // Takes the origin that trace has found just before.
        int findAtOrigin(State state, int pamphlet, int quotation) {
            search.byTable(state.at(pamphlet), quotation, state.at(origin));
            return search.changes;
        }

        int parent(State state, int pamphlet, int quotation) {
            find(state, pamphlet, quotation);
            Pamphlet source = state.at(state.at(pamphlet).sources.number(quotation));
            return source.quotationAround(search.begin, search.length);
        }

        void trace(State state, int pamphlet, int quotation) {
            int here = pamphlet;
            int next = quotation;
            traced = 0;
            while (next != NONE && traced < MOST_PAMPHLETS) {
                origin = state.at(here).sources.number(next);
                next = parent(state, here, next);
                here = origin;
                traced++;
            }
        }

        int children(State state, int pamphlet, int quotation) {
            Pamphlet source = state.at(pamphlet);
            int found = 0;
            for (int later = pamphlet + 1; later < state.count; later++) {
                Pamphlet quoting = state.at(later);
                for (int other = 0; other < quoting.quotationCount; other++) {
                    if (quoting.sources.number(other) == pamphlet) {
                        find(state, later, other);
                        found += source.isWithin(quotation, search.begin, search.length) ? 1 : 0;
                    }
                }
            }
            return found;
        }

        // isRoomFor and putRight take the passage that find has found just before.
        boolean isRoomFor(State state, int pamphlet, int quotation) {
            Pamphlet quoting = state.at(pamphlet);
            return quoting.wordCount + quoting.growth(quotation, search.length) <= MOST_WORDS;
        }

        void putRight(State state, int pamphlet, int quotation) {
            Pamphlet quoting = state.at(pamphlet);
            Pamphlet source = state.at(quoting.sources.number(quotation));
            quoting.replace(quotation, source, search.begin, search.length);
        }

        int putAllRight(State state, int pamphlet) {
            int count = state.at(pamphlet).quotationCount;
            int mended = 0;
            for (int i = 0; i < count; i++) {
                if (find(state, pamphlet, i) > 0 && isRoomFor(state, pamphlet, i)) {
                    putRight(state, pamphlet, i);
                    mended++;
                }
            }
            return mended;
        }

        int changesWritten(State state, int author, int sufferer) {
            int changes = 0;
            for (int pamphlet = 0; pamphlet < state.count; pamphlet++) {
                if (state.at(pamphlet).author == author) {
                    changes += changesIn(state, pamphlet, sufferer);
                }
            }
            return changes;
        }

        // Without a sufferer (NONE) all quotations count.
        private int changesIn(State state, int pamphlet, int sufferer) {
            Pamphlet quoting = state.at(pamphlet);
            int changes = 0;
            for (int i = 0; i < quoting.quotationCount; i++) {
                int author = state.at(quoting.sources.number(i)).author;
                if (sufferer == NONE || sufferer == author) {
                    changes += find(state, pamphlet, i);
                }
            }
            return changes;
        }

        int changesSuffered(State state, int source) {
            int changes = 0;
            for (int pamphlet = source + 1; pamphlet < state.count; pamphlet++) {
                Pamphlet quoting = state.at(pamphlet);
                for (int i = 0; i < quoting.quotationCount; i++) {
                    if (quoting.sources.number(i) == source) {
                        changes += find(state, pamphlet, i);
                    }
                }
            }
            return changes;
        }

        int faithfulIn(State state, int pamphlet) {
            int count = state.at(pamphlet).quotationCount;
            int faithful = 0;
            for (int i = 0; i < count; i++) {
                faithful += find(state, pamphlet, i) == 0 ? 1 : 0;
            }
            return faithful;
        }
    }

    /** What a pamphlet answers; that always has a smaller number than the pamphlet. */
    private static final class Ladders {
        private final Row tallies = new Row(MOST_PAMPHLETS);

        int longest(State state, int pamphlet) {
            for (int number = 0; number <= pamphlet && number < MOST_PAMPHLETS; number++) {
                int below = 0;
                for (int other = 0; other < number; other++) {
                    if (state.at(number).quotes(other)) {
                        below = Math.max(below, tallies.number(other));
                    }
                }
                tallies.put(number, below + 1);
            }
            return tallies.number(pamphlet);
        }

        int fromTheGround(State state, int pamphlet) {
            for (int number = 0; number <= pamphlet && number < MOST_PAMPHLETS; number++) {
                int below = 0;
                for (int other = 0; other < number; other++) {
                    if (state.at(number).quotes(other)) {
                        below += tallies.number(other);
                    }
                }
                tallies.put(number, state.at(number).quotationCount == 0 ? 1 : below);
            }
            return tallies.number(pamphlet);
        }

        // A tally is 1 for each pamphlet that is read, otherwise 0.
        int gatherReading(State state, int pamphlet) {
            for (int number = 0; number < MOST_PAMPHLETS; number++) {
                tallies.put(number, number == pamphlet ? 1 : 0);
            }
            int read = 0;
            for (int number = pamphlet; number >= 0; number--) {
                if (tallies.number(number) == 1) {
                    markSources(state.at(number));
                    read++;
                }
            }
            return read;
        }

        private void markSources(Pamphlet answer) {
            for (int i = 0; i < answer.quotationCount; i++) {
                tallies.put(answer.sources.number(i), 1);
            }
        }

        int readIn(int place) {
            int left = place;
            for (int number = 0; number < MOST_PAMPHLETS; number++) {
                if (tallies.number(number) == 1) {
                    if (left == 0) {
                        return number;
                    }
                    left--;
                }
            }
            return NONE;
        }
    }

    /** All different words, the most frequent first. */
    private static final class Glossary {
        private final Row entries = new Row(MOST_PAMPHLETS * MOST_WORDS);
        private final Row times = new Row(MOST_PAMPHLETS * MOST_WORDS);
        private int size;

        void gather(State state) {
            size = 0;
            for (int pamphlet = 0; pamphlet < state.count; pamphlet++) {
                Pamphlet text = state.at(pamphlet);
                for (int word = 0; word < text.wordCount; word++) {
                    count(text.words.at(word));
                }
            }
            for (int place = 1; place < size; place++) {
                moveForward(place);
            }
        }

        private void count(long word) {
            int place = 0;
            while (place < size && entries.at(place) != word) {
                place++;
            }
            if (place == size) {
                entries.put(place, word);
                times.put(place, 0);
                size++;
            }
            times.put(place, times.number(place) + 1);
        }

        private void moveForward(int from) {
            long word = entries.at(from);
            int often = times.number(from);
            int place = from;
            while (place > 0 && isBefore(word, often, place - 1)) {
                entries.put(place, entries.at(place - 1));
                times.put(place, times.number(place - 1));
                place--;
            }
            entries.put(place, word);
            times.put(place, often);
        }

        private boolean isBefore(long word, int often, int place) {
            int other = times.number(place);
            return often != other ? often > other : word < entries.at(place);
        }
    }
}
