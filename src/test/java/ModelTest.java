import java.lang.reflect.InvocationTargetException;
import java.lang.reflect.Method;
import java.util.ArrayList;
import java.util.Arrays;
import java.util.List;
import java.util.Random;

/** Runs of 512 calls, some of them wrong ones, on the program and on the plain model. */
public final class ModelTest {
    private static final int RUNS = 1500;
    private static final int CALLS = 512;

    // The letters behind a name are the kinds of its arguments, see argument().
    private static final String[] ASKED = {
        "day", "pamphlets", "authorOf p", "dayOf p", "wordsOf p", "pagesOf p", "wordsOn pg",
        "letterOf pwi", "isSameWord pwpw", "whyNotPrinted", "quotationsOf p", "sourceOf pq",
        "beginOf pq", "lengthOf pq", "changesByTable pq", "changesByPassages pq", "passageOf pq",
        "passageLength pq", "pageOf pq", "comesFrom pq", "originOf pq", "traceOf pq",
        "changesAtOrigin pq", "quotedAgain pq", "blameOf a", "wrongs aa", "blameByAuthors",
        "blameBySources", "faithfulShare", "answers pp", "ladderOf p", "laddersOf p",
        "readingOf p", "readAt pg", "glossary", "timesOf w", "glossaryLetter wi",
        "errorPosition", "savedStates",
    };
    private static final String[] CHANGED = {
        "print a", "print a", "pass d", "pass d", "mend pq", "mend pq", "mend pq", "mendAll",
        "withdraw", "undo", "undo", "takeSnapshot", "restoreSnapshot", "clearText", "append c",
    };
    private static final String[] VOCABULARY = {
        "a", "b", "c", "d", "e", "ab", "ba", "z", "abcdefg", "abcdefh", "zzzzzzz",
    };
    private static final String SIGNS = "abz \"\"@@0129 AZ`{/:~";
    private static final int[] ODD = {
        -1, 20, Integer.MIN_VALUE, Integer.MAX_VALUE, 60, 100, 101, 7, 8, 31, 32, 126, 127,
    };

    private final Random random;
    private final PamphletQuarrel program = new PamphletQuarrel();
    private final PlainModel model = new PlainModel();
    private final List<String> calls = new ArrayList<>();
    private final int longest;
    private boolean isWrong = false;

    private ModelTest(int run) {
        random = new Random(run);
        int[] lengths = {3, 12, 40, 100};
        longest = lengths[run % lengths.length];
    }

    public static void main(String[] args) {
        int wrong = 0;
        for (int run = 0; run < RUNS && wrong < 5; run++) {
            wrong += new ModelTest(run).isRunAsDue(run) ? 0 : 1;
        }
        Check.same("runs that went wrong", 0, wrong);
        Check.end();
    }

    private boolean isRunAsDue(int run) {
        while (calls.size() < CALLS && !isWrong) {
            int kind = random.nextInt(12);
            if (kind < 3) {
                printText();
            } else if (kind == 3) {
                typeNonsense();
            } else if (kind == 4) {
                call(CHANGED[random.nextInt(CHANGED.length)]);
            } else if (kind < 7) {
                lookAround();
            } else {
                call(ASKED[random.nextInt(ASKED.length)]);
            }
        }
        if (isWrong) {
            System.out.println("run " + run + ": " + String.join(", ", calls));
        }
        return !isWrong;
    }

    private void call(String nameAndKinds) {
        String[] parts = nameAndKinds.split(" ");
        String kinds = parts.length == 1 ? "" : parts[1];
        int[] arguments = new int[kinds.length()];
        for (int i = 0; i < arguments.length; i++) {
            arguments[i] = argument(kinds.charAt(i), i == 0 ? 0 : arguments[i - 1]);
        }
        compare(parts[0], arguments);
    }

    private int argument(char kind, int before) {
        if (random.nextInt(40) == 0) {
            return ODD[random.nextInt(ODD.length)];
        }
        int count = model.pamphlets();
        boolean isPamphlet = before >= 0 && before < count;
        switch (kind) {
            case 'p': return random.nextInt(Math.max(count, 1));
            case 'q': return anyOf(isPamphlet ? model.quotationsOf(before) : 0);
            case 'w': return anyOf(isPamphlet ? model.wordsOf(before) : 10);
            case 'g': return random.nextInt(8);
            case 'i': return random.nextInt(9);
            case 'a': return random.nextInt(8);
            case 'd': return 1 + random.nextInt(100);
            case 'c': return 32 + random.nextInt(95);
            default: throw new IllegalStateException("an unknown kind: " + kind);
        }
    }

    private int anyOf(int count) {
        return random.nextInt(8) == 0 ? count : random.nextInt(Math.max(count, 1));
    }

    private void compare(String name, int... arguments) {
        if (calls.size() >= CALLS || isWrong) {
            return;
        }
        Object due = answer(model, name, arguments);
        Object got = answer(program, name, arguments);
        calls.add(name + Arrays.toString(arguments) + "=" + got);
        if (!due.equals(got)) {
            isWrong = true;
            calls.add("due is " + due);
        }
    }

    private static Object answer(Object asked, String name, int... arguments) {
        Class<?>[] types = new Class<?>[arguments.length];
        Arrays.fill(types, int.class);
        try {
            Method method = asked.getClass().getMethod(name, types);
            return method.invoke(asked, Arrays.stream(arguments).boxed().toArray());
        } catch (InvocationTargetException e) {
            return e.getCause().getClass();
        } catch (ReflectiveOperationException e) {
            throw new IllegalStateException(e);
        }
    }

    private void printText() {
        if (random.nextInt(3) > 0) {
            compare("pass", 1 + random.nextInt(3));
        }
        compare("clearText");
        type(text());
        compare("errorPosition");
        compare("whyNotPrinted");
        compare("print", random.nextInt(3));
    }

    private void typeNonsense() {
        if (random.nextBoolean()) {
            type(text());
        }
        for (int i = random.nextInt(4); i >= 0; i--) {
            compare("append", (int) SIGNS.charAt(random.nextInt(SIGNS.length())));
            compare("errorPosition");
        }
        compare("whyNotPrinted");
        if (random.nextBoolean()) {
            compare("clearText");
        }
    }

    private void type(String text) {
        for (int i = 0; i < text.length(); i++) {
            compare("append", (int) text.charAt(i));
        }
    }

    /** Asks all of one quotation. */
    private void lookAround() {
        int pamphlet = argument('p', 0);
        int quotation = argument('q', pamphlet);
        for (String asked : ASKED) {
            if (asked.endsWith(" pq") && random.nextInt(3) == 0) {
                compare(asked.substring(0, asked.length() - 3), pamphlet, quotation);
            }
        }
    }

    private String text() {
        StringBuilder text = new StringBuilder();
        int length = 1 + random.nextInt(longest);
        while (text.length() < length) {
            String item = random.nextInt(3) == 0 || model.pamphlets() == 0 ? word() : quotation();
            if (text.length() + 1 + item.length() > 100) {
                break;
            }
            text.append(text.length() == 0 ? "" : " ").append(item);
        }
        return text.length() == 0 ? "a" : text.toString();
    }

    private String word() {
        int most = longest > 12 && random.nextInt(6) > 0 ? 5 : VOCABULARY.length;
        return VOCABULARY[random.nextInt(most)];
    }

    /** Some words of a pamphlet, with some left out, put in or changed. */
    private String quotation() {
        int source = random.nextInt(Math.min(20, model.pamphlets() + random.nextInt(20) / 19));
        int words = source < model.pamphlets() ? model.wordsOf(source) : 0;
        int begin = words == 0 ? 0 : random.nextInt(words);
        int end = words == 0 ? 0 : begin + 1 + random.nextInt(words - begin);
        int care = 2 + random.nextInt(12);
        List<String> quoted = new ArrayList<>();
        for (int i = begin; i < end; i++) {
            int error = random.nextInt(care);
            if (error == 0) {
                quoted.add(word());
            }
            if (error != 1) {
                quoted.add(error == 2 ? word() : wordOf(source, i));
            }
        }
        if (quoted.isEmpty()) {
            quoted.add(word());
        }
        return "\"" + String.join(" ", quoted) + "\"@" + source;
    }

    private String wordOf(int pamphlet, int word) {
        StringBuilder letters = new StringBuilder();
        for (int i = 0; model.letterOf(pamphlet, word, i) >= 0; i++) {
            letters.append((char) model.letterOf(pamphlet, word, i));
        }
        return letters.toString();
    }
}
