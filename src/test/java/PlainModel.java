import java.util.ArrayDeque;
import java.util.ArrayList;
import java.util.Deque;
import java.util.HashMap;
import java.util.List;
import java.util.Map;
import java.util.TreeSet;
import java.util.regex.Matcher;
import java.util.regex.Pattern;

/** The document once more, as plainly and as slowly as can be, to compare the program with. */
public final class PlainModel {
    private static final String WORDS = "[a-z]{1,7}( [a-z]{1,7})*";
    private static final String ITEM = "([a-z]{1,7}|\"" + WORDS + "\"@(1[0-9]|[0-9]))";
    private static final Pattern TEXT = Pattern.compile(ITEM + "( " + ITEM + ")*");
    private static final Pattern ITEMS =
            Pattern.compile("([a-z]+)|\"([a-z ]+)\"@([0-9]+)");

    private record Item(List<String> words, int source) {
        boolean isQuotation() {
            return source >= 0;
        }
    }

    private record Pamphlet(int author, int day, List<Item> items) {
        List<String> words() {
            List<String> words = new ArrayList<>();
            items.forEach(item -> words.addAll(item.words));
            return words;
        }

        List<Item> quotations() {
            return items.stream().filter(Item::isQuotation).toList();
        }

        int beginOf(int quotation) {
            int begin = 0;
            int seen = 0;
            for (Item item : items) {
                if (item.isQuotation() && seen++ == quotation) {
                    return begin;
                }
                begin += item.words.size();
            }
            throw new IllegalStateException();
        }

        Pamphlet with(int quotation, List<String> words) {
            List<Item> changed = new ArrayList<>();
            int seen = 0;
            for (Item item : items) {
                boolean it = item.isQuotation() && seen++ == quotation;
                changed.add(it ? new Item(words, item.source) : item);
            }
            return new Pamphlet(author, day, changed);
        }
    }

    private record State(int day, List<Pamphlet> pamphlets) {
    }

    private record Passage(int changes, int begin, int length) {
    }

    private int day = 0;
    private List<Pamphlet> all = new ArrayList<>();
    private String buffer = "";
    private final Deque<State> saved = new ArrayDeque<>();
    private State snapshot = null;

    // ---- changes

    public int print(int author) {
        if (author < 0 || author > 7) {
            throw new IllegalArgumentException();
        }
        if (whyNotPrinted() > 0) {
            throw new IllegalStateException();
        }
        save();
        all.add(new Pamphlet(author, day, itemsOfBuffer()));
        buffer = "";
        return all.size() - 1;
    }

    public int pass(int days) {
        if (days < 1 || days > 100) {
            throw new IllegalArgumentException();
        }
        save();
        return day += days;
    }

    public int mend(int pamphlet, int quotation) {
        Passage passage = passage(pamphlet, quotation);
        if (!canMend(pamphlet, quotation)) {
            throw new IllegalStateException();
        }
        save();
        mendIt(pamphlet, quotation);
        return passage.changes;
    }

    public int mendAll() {
        save();
        int mended = 0;
        for (int p = 0; p < all.size(); p++) {
            for (int q = 0; q < all.get(p).quotations().size(); q++) {
                if (canMend(p, q)) {
                    mendIt(p, q);
                    mended++;
                }
            }
        }
        return mended;
    }

    public int withdraw() {
        if (all.isEmpty() || all.get(all.size() - 1).day != day) {
            throw new IllegalStateException();
        }
        save();
        all.remove(all.size() - 1);
        return all.size();
    }

    private boolean canMend(int p, int q) {
        Passage passage = passage(p, q);
        int rest = all.get(p).words().size() - quotation(p, q).words.size();
        return passage.changes > 0 && rest + passage.length <= 60;
    }

    private void mendIt(int p, int q) {
        Passage passage = passage(p, q);
        List<String> words = all.get(quotation(p, q).source).words()
                .subList(passage.begin, passage.begin + passage.length);
        all.set(p, all.get(p).with(q, List.copyOf(words)));
    }

    // ---- pamphlets

    public int day() {
        return day;
    }

    public int pamphlets() {
        return all.size();
    }

    public int authorOf(int p) {
        return pamphlet(p).author;
    }

    public int dayOf(int p) {
        return pamphlet(p).day;
    }

    public int wordsOf(int p) {
        return pamphlet(p).words().size();
    }

    public int pagesOf(int p) {
        return pages(p).size();
    }

    public int wordsOn(int p, int page) {
        return in(page, pages(p)).size();
    }

    public int letterOf(int p, int word, int index) {
        return letter(in(word, pamphlet(p).words()), index);
    }

    public boolean isSameWord(int p, int word, int other, int otherWord) {
        return in(word, pamphlet(p).words()).equals(in(otherWord, pamphlet(other).words()));
    }

    public int whyNotPrinted() {
        if (all.size() == 20) {
            return 1;
        }
        if (!TEXT.matcher(buffer).matches()) {
            return 2;
        }
        List<Integer> sources = itemsOfBuffer().stream()
                .filter(Item::isQuotation).map(Item::source).toList();
        if (sources.stream().anyMatch(s -> s >= all.size())) {
            return 3;
        }
        return sources.stream().anyMatch(s -> all.get(s).day == day) ? 4 : 0;
    }

    private List<List<String>> pages(int p) {
        List<List<String>> pages = new ArrayList<>();
        for (String word : pamphlet(p).words()) {
            if (pages.isEmpty() || pages.get(pages.size() - 1).size() == 8) {
                pages.add(new ArrayList<>());
            }
            pages.get(pages.size() - 1).add(word);
        }
        return pages;
    }

    private List<Item> itemsOfBuffer() {
        List<Item> items = new ArrayList<>();
        Matcher found = ITEMS.matcher(buffer);
        while (found.find()) {
            items.add(found.group(1) != null
                    ? new Item(List.of(found.group(1)), -1)
                    : new Item(List.of(found.group(2).split(" ")),
                            Integer.parseInt(found.group(3))));
        }
        return items;
    }

    // ---- quotations

    public int quotationsOf(int p) {
        return pamphlet(p).quotations().size();
    }

    public int sourceOf(int p, int q) {
        return quotation(p, q).source;
    }

    public int beginOf(int p, int q) {
        quotation(p, q);
        return all.get(p).beginOf(q);
    }

    public int lengthOf(int p, int q) {
        return quotation(p, q).words.size();
    }

    public int changesByTable(int p, int q) {
        return passage(p, q).changes;
    }

    public int changesByPassages(int p, int q) {
        return passage(p, q).changes;
    }

    public int passageOf(int p, int q) {
        return passage(p, q).begin;
    }

    public int passageLength(int p, int q) {
        return passage(p, q).length;
    }

    public int pageOf(int p, int q) {
        int page = 0;
        for (int word = 8; word <= passage(p, q).begin; word += 8) {
            page++;
        }
        return page;
    }

    public int comesFrom(int p, int q) {
        Passage passage = passage(p, q);
        int source = quotation(p, q).source;
        TreeSet<Integer> from = new TreeSet<>();
        for (int i = 0; i < quotationsOf(source); i++) {
            int begin = beginOf(source, i);
            if (begin <= passage.begin
                    && passage.begin + passage.length <= begin + lengthOf(source, i)) {
                from.add(i);
            }
        }
        return from.isEmpty() ? -1 : from.first();
    }

    public int originOf(int p, int q) {
        int from = comesFrom(p, q);
        int source = quotation(p, q).source;
        return from == -1 ? source : originOf(source, from);
    }

    public int traceOf(int p, int q) {
        int from = comesFrom(p, q);
        return from == -1 ? 1 : 1 + traceOf(quotation(p, q).source, from);
    }

    public int changesAtOrigin(int p, int q) {
        return passage(quotation(p, q).words, all.get(originOf(p, q)).words()).changes;
    }

    public int quotedAgain(int p, int q) {
        quotation(p, q);
        int times = 0;
        for (int i = 0; i < all.size(); i++) {
            for (int j = 0; j < quotationsOf(i); j++) {
                if (sourceOf(i, j) == p && comesFrom(i, j) == q) {
                    times++;
                }
            }
        }
        return times;
    }

    private Passage passage(int p, int q) {
        Item quotation = quotation(p, q);
        return passage(quotation.words, all.get(quotation.source).words());
    }

    private static Passage passage(List<String> words, List<String> source) {
        Passage best = null;
        for (int begin = 0; begin < source.size(); begin++) {
            for (int end = begin + 1; end <= source.size(); end++) {
                int changes = changes(words, source.subList(begin, end));
                if (best == null || changes < best.changes) {
                    best = new Passage(changes, begin, end - begin);
                }
            }
        }
        return best;
    }

    private static int changes(List<String> one, List<String> other) {
        int[][] least = new int[one.size() + 1][other.size() + 1];
        for (int i = 0; i <= one.size(); i++) {
            for (int j = 0; j <= other.size(); j++) {
                if (i == 0 || j == 0) {
                    least[i][j] = i + j;
                } else if (one.get(i - 1).equals(other.get(j - 1))) {
                    least[i][j] = least[i - 1][j - 1];
                } else {
                    least[i][j] = 1 + Math.min(least[i - 1][j - 1],
                            Math.min(least[i - 1][j], least[i][j - 1]));
                }
            }
        }
        return least[one.size()][other.size()];
    }

    // ---- blame

    public int blameOf(int author) {
        author(author);
        int changes = 0;
        for (int other = 0; other < 8; other++) {
            changes += wrongs(author, other);
        }
        return changes;
    }

    public int wrongs(int author, int other) {
        author(author);
        author(other);
        int changes = 0;
        for (int p = 0; p < all.size(); p++) {
            for (int q = 0; q < quotationsOf(p); q++) {
                if (authorOf(p) == author && authorOf(sourceOf(p, q)) == other) {
                    changes += passage(p, q).changes;
                }
            }
        }
        return changes;
    }

    public int blameByAuthors() {
        int changes = 0;
        for (int p = 0; p < all.size(); p++) {
            for (int q = 0; q < quotationsOf(p); q++) {
                changes += passage(p, q).changes;
            }
        }
        return changes;
    }

    public int blameBySources() {
        return blameByAuthors();
    }

    public double faithfulShare() {
        double faithful = 0;
        double count = 0;
        for (int p = 0; p < all.size(); p++) {
            for (int q = 0; q < quotationsOf(p); q++) {
                count++;
                faithful += passage(p, q).changes == 0 ? 1 : 0;
            }
        }
        return count == 0 ? 0.0 : faithful / count;
    }

    // ---- ladders and reading

    public boolean answers(int p, int other) {
        pamphlet(other);
        return sources(p).contains(other);
    }

    public int ladderOf(int p) {
        int longest = 0;
        for (int source : sources(p)) {
            longest = Math.max(longest, ladderOf(source));
        }
        return longest + 1;
    }

    public int laddersOf(int p) {
        int ladders = sources(p).isEmpty() ? 1 : 0;
        for (int source : sources(p)) {
            ladders += laddersOf(source);
        }
        return ladders;
    }

    public int readingOf(int p) {
        return reading(p).size();
    }

    public int readAt(int p, int place) {
        return in(place, new ArrayList<>(reading(p)));
    }

    private TreeSet<Integer> sources(int p) {
        TreeSet<Integer> sources = new TreeSet<>();
        pamphlet(p).quotations().forEach(q -> sources.add(q.source));
        return sources;
    }

    private TreeSet<Integer> reading(int p) {
        TreeSet<Integer> read = new TreeSet<>(sources(p));
        sources(p).forEach(source -> read.addAll(reading(source)));
        read.add(p);
        return read;
    }

    // ---- the glossary

    public int glossary() {
        return entries().size();
    }

    public int timesOf(int place) {
        return in(place, entries()).getValue();
    }

    public int glossaryLetter(int place, int index) {
        return letter(in(place, entries()).getKey(), index);
    }

    private List<Map.Entry<String, Integer>> entries() {
        Map<String, Integer> times = new HashMap<>();
        for (Pamphlet pamphlet : all) {
            pamphlet.words().forEach(word -> times.merge(word, 1, Integer::sum));
        }
        List<Map.Entry<String, Integer>> entries = new ArrayList<>(times.entrySet());
        entries.sort((a, b) -> a.getValue().equals(b.getValue())
                ? a.getKey().compareTo(b.getKey())
                : b.getValue().compareTo(a.getValue()));
        return entries;
    }

    // ---- the buffer

    public int append(int code) {
        if (code < 32 || code > 126) {
            throw new IllegalArgumentException();
        }
        if (buffer.length() == 100) {
            throw new IllegalStateException();
        }
        buffer += (char) code;
        return buffer.length();
    }

    public int clearText() {
        int length = buffer.length();
        buffer = "";
        return length;
    }

    public int errorPosition() {
        for (int length = 1; length <= buffer.length(); length++) {
            Matcher beginning = TEXT.matcher(buffer.substring(0, length));
            if (!beginning.matches() && !beginning.hitEnd()) {
                return length - 1;
            }
        }
        return buffer.length();
    }

    // ---- undo and the snapshot

    public int undo() {
        if (saved.isEmpty()) {
            throw new IllegalStateException();
        }
        restore(saved.removeLast());
        return saved.size();
    }

    public int savedStates() {
        return saved.size();
    }

    public int takeSnapshot() {
        snapshot = state();
        return all.size();
    }

    public int restoreSnapshot() {
        if (snapshot == null) {
            throw new IllegalStateException();
        }
        save();
        restore(snapshot);
        return all.size();
    }

    private State state() {
        return new State(day, List.copyOf(all));
    }

    private void save() {
        saved.addLast(state());
        if (saved.size() > 5) {
            saved.removeFirst();
        }
    }

    private void restore(State state) {
        day = state.day;
        all = new ArrayList<>(state.pamphlets);
    }

    // ---- what there is

    private static void author(int author) {
        if (author < 0 || author > 7) {
            throw new IndexOutOfBoundsException();
        }
    }

    private static <T> T in(int place, List<T> list) {
        if (place < 0 || place >= list.size()) {
            throw new IndexOutOfBoundsException();
        }
        return list.get(place);
    }

    private Pamphlet pamphlet(int p) {
        return in(p, all);
    }

    private Item quotation(int p, int q) {
        return in(q, pamphlet(p).quotations());
    }

    private static int letter(String word, int index) {
        if (index < 0) {
            throw new IndexOutOfBoundsException();
        }
        return index < word.length() ? word.charAt(index) : -1;
    }
}
