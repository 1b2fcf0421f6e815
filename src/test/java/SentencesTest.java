import java.io.IOException;
import java.lang.reflect.Method;
import java.nio.file.Files;
import java.nio.file.Path;
import java.util.ArrayList;
import java.util.List;
import java.util.Map;
import java.util.TreeMap;

/** Each sentence of the document's terms and promises has a test that quotes it. */
public final class SentencesTest {
    private static final Path DOCUMENT = Path.of("../shared/DOC.md");
    private static final int PROMISES = 50;

    private static final Class<?>[] TESTS = {
        TextsTest.class, TermsTest.class, ChangesTest.class, PamphletsTest.class,
        QuotationsTest.class, AnswersTest.class, UndoTest.class,
    };

    private SentencesTest() {
    }

    public static void main(String[] args) throws IOException {
        Map<Integer, List<String>> quoted = new TreeMap<>();
        for (Class<?> tests : TESTS) {
            for (Method test : Check.testsOf(tests)) {
                Says says = test.getAnnotation(Says.class);
                quoted.computeIfAbsent(says.promise(), p -> new ArrayList<>()).add(says.value());
            }
        }
        for (int promise = 0; promise <= PROMISES; promise++) {
            Check.same("promise " + promise + " has tests", true, quoted.containsKey(promise));
        }
        if (Files.exists(DOCUMENT)) {
            compare(sections(Files.readAllLines(DOCUMENT)), quoted);
        } else {
            System.out.println("there is no " + DOCUMENT + " to compare the sentences with");
        }
        Check.end();
    }

    private static void compare(Map<Integer, List<String>> told,
            Map<Integer, List<String>> quoted) {
        told.forEach((promise, sentences) -> {
            List<String> quotes = quoted.getOrDefault(promise, List.of());
            for (String sentence : sentences) {
                boolean isQuoted = quotes.stream().anyMatch(sentence::contains);
                Check.same("a test of promise " + promise + ": " + sentence, true, isQuoted);
            }
            String all = String.join("; ", sentences);
            for (String quote : quotes) {
                Check.same("in promise " + promise + ": " + quote, true, all.contains(quote));
            }
        });
    }

    /** The sentences by promises; 0 has those of "What it is" and "Terms". */
    private static Map<Integer, List<String>> sections(List<String> lines) {
        Map<Integer, List<String>> sections = new TreeMap<>();
        int promise = -1;
        for (String line : lines) {
            if (line.startsWith("## ")) {
                promise = promiseOf(line);
            } else if (promise >= 0 && !line.startsWith("#")) {
                sections.computeIfAbsent(promise, p -> new ArrayList<>()).addAll(sentences(line));
            }
        }
        return sections;
    }

    private static int promiseOf(String title) {
        if (title.startsWith("## Promise ")) {
            return Integer.parseInt(title.substring(11, title.indexOf(':')));
        }
        return title.equals("## What it is") || title.equals("## Terms") ? 0 : -1;
    }

    /** Without the marks round code, the signature before a promise, and the marks between. */
    private static List<String> sentences(String line) {
        String told = line.replaceFirst("^`[^`]*\\)[^`]*`: ", "").replaceFirst("^- ", "")
                .replace("`", "");
        List<String> sentences = new ArrayList<>();
        for (String sentence : told.split("(?<=\\.) |; |\\.$")) {
            String bare = sentence.replaceFirst("\\.$", "").trim();
            if (!isWithoutBound(bare)) {
                sentences.add(bare);
            }
        }
        return sentences;
    }

    // What the document says of itself: titles, and where the face has its comments.
    private static boolean isWithoutBound(String sentence) {
        return sentence.isEmpty() || sentence.startsWith("Ahead of the calls ")
                || sentence.startsWith("A quarrel of pamphlets that quote and misquote each other")
                || sentence.equals("what later calls answer is free")
                || sentence.equals("Passages, changes") || sentence.equals("Ladders, reading");
    }
}
