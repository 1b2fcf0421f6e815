import java.io.IOException;
import java.lang.reflect.Constructor;
import java.lang.reflect.Field;
import java.lang.reflect.Method;
import java.lang.reflect.Modifier;
import java.nio.file.Files;
import java.nio.file.Path;
import java.util.Arrays;
import java.util.List;
import java.util.Set;
import java.util.TreeSet;
import java.util.regex.Matcher;
import java.util.regex.Pattern;
import java.util.stream.Collectors;

/** The face is the document's, and the source keeps to what a search can tell of LANGUAGE.md. */
public final class FaceTest {
    private static final Path SOURCE = Path.of("src/main/java/PamphletQuarrel.java");

    private static final String[] FACE = {
        "int print(int) IllegalArgumentException IllegalStateException",
        "int pass(int) IllegalArgumentException",
        "int mend(int,int) IndexOutOfBoundsException IllegalStateException",
        "int mendAll()",
        "int withdraw() IllegalStateException",
        "int day()",
        "int pamphlets()",
        "int authorOf(int) IndexOutOfBoundsException",
        "int dayOf(int) IndexOutOfBoundsException",
        "int wordsOf(int) IndexOutOfBoundsException",
        "int pagesOf(int) IndexOutOfBoundsException",
        "int wordsOn(int,int) IndexOutOfBoundsException",
        "int letterOf(int,int,int) IndexOutOfBoundsException",
        "boolean isSameWord(int,int,int,int) IndexOutOfBoundsException",
        "int whyNotPrinted()",
        "int quotationsOf(int) IndexOutOfBoundsException",
        "int sourceOf(int,int) IndexOutOfBoundsException",
        "int beginOf(int,int) IndexOutOfBoundsException",
        "int lengthOf(int,int) IndexOutOfBoundsException",
        "int changesByTable(int,int) IndexOutOfBoundsException",
        "int changesByPassages(int,int) IndexOutOfBoundsException",
        "int passageOf(int,int) IndexOutOfBoundsException",
        "int passageLength(int,int) IndexOutOfBoundsException",
        "int pageOf(int,int) IndexOutOfBoundsException",
        "int comesFrom(int,int) IndexOutOfBoundsException",
        "int originOf(int,int) IndexOutOfBoundsException",
        "int traceOf(int,int) IndexOutOfBoundsException",
        "int changesAtOrigin(int,int) IndexOutOfBoundsException",
        "int quotedAgain(int,int) IndexOutOfBoundsException",
        "int blameOf(int) IndexOutOfBoundsException",
        "int wrongs(int,int) IndexOutOfBoundsException",
        "int blameByAuthors()",
        "int blameBySources()",
        "double faithfulShare()",
        "boolean answers(int,int) IndexOutOfBoundsException",
        "int ladderOf(int) IndexOutOfBoundsException",
        "int laddersOf(int) IndexOutOfBoundsException",
        "int readingOf(int) IndexOutOfBoundsException",
        "int readAt(int,int) IndexOutOfBoundsException",
        "int glossary()",
        "int timesOf(int) IndexOutOfBoundsException",
        "int glossaryLetter(int,int) IndexOutOfBoundsException",
        "int append(int) IllegalArgumentException IllegalStateException",
        "int clearText()",
        "int errorPosition()",
        "int undo() IllegalStateException",
        "int savedStates()",
        "int takeSnapshot()",
        "int restoreSnapshot() IllegalStateException",
    };

    // What the rules 2 to 6 and 9 to 13 leave out, as far as a word or sign of a line shows it.
    private static final String[] LEFT_OUT = {
        "\\bpackage\\s", "import (?!java\\.util\\.)", "\\bfinally\\b", "\\bsynchronized\\b",
        "\\bassert\\b", "^(?!.*\\b(case|default)\\b).*->", "::", "\\bstatic\\s*\\{", "\\w+Exact\\(",
        "\\+=?\\s*\"", "\"\\s*\\+", "\\bSystem\\.(?!arraycopy\\b)", "\\bThread\\b", "\\bRandom\\b",
        "\\bObject\\b", "\\bwhile \\(true\\)", "\\bfor \\(;;", "\\bextends \\w*Exception\\b",
        "\\bgetMessage\\(", "\\btry \\(",
    };

    private static final String[] THROWN = {
        "IllegalStateException", "IllegalArgumentException", "IndexOutOfBoundsException",
        "ArithmeticException", "UnsupportedOperationException", "NoSuchElementException",
        "RuntimeException",
    };

    private FaceTest() {
    }

    public static void main(String[] args) throws IOException {
        theClass();
        theMembers();
        theClassesInside();
        theSource(Files.readString(SOURCE));
        Check.end();
    }

    private static void theClass() {
        Class<?> face = PamphletQuarrel.class;
        Check.same("modifiers", Modifier.PUBLIC | Modifier.FINAL, face.getModifiers());
        Check.same("package", "", face.getPackageName());
        Constructor<?>[] constructors = face.getDeclaredConstructors();
        Check.same("constructors", 1, constructors.length);
        Check.same("a public constructor", Modifier.PUBLIC, constructors[0].getModifiers());
        Check.same("without parameters", 0, constructors[0].getParameterCount());
        Check.same("NONE", -1, PamphletQuarrel.NONE);
    }

    private static void theMembers() {
        Set<String> members = new TreeSet<>();
        for (Method method : PamphletQuarrel.class.getDeclaredMethods()) {
            if (!Modifier.isPrivate(method.getModifiers())) {
                Check.same("modifiers of " + method, Modifier.PUBLIC, method.getModifiers());
                members.add(told(method));
            }
        }
        Check.same("the methods", new TreeSet<>(List.of(FACE)), members);
        for (Field field : PamphletQuarrel.class.getDeclaredFields()) {
            boolean isNone = field.getName().equals("NONE");
            Check.same("private: " + field, !isNone, Modifier.isPrivate(field.getModifiers()));
        }
    }

    private static String told(Method method) {
        StringBuilder told = new StringBuilder();
        told.append(method.getReturnType()).append(' ').append(method.getName()).append('(');
        told.append(Arrays.stream(method.getParameterTypes()).map(Class::getSimpleName)
                .collect(Collectors.joining(",")));
        told.append(')');
        for (Class<?> thrown : method.getExceptionTypes()) {
            told.append(' ').append(thrown.getSimpleName());
        }
        return told.toString();
    }

    private static void theClassesInside() {
        Class<?>[] inside = PamphletQuarrel.class.getDeclaredClasses();
        Check.same("classes: " + inside.length, true, inside.length <= 12);
        limits(PamphletQuarrel.class);
        for (Class<?> one : inside) {
            int open = Modifier.PUBLIC | Modifier.PROTECTED;
            Check.same("neither public nor protected: " + one, 0, one.getModifiers() & open);
            limits(one);
        }
    }

    private static void limits(Class<?> one) {
        int fields = 0;
        for (Field field : one.getDeclaredFields()) {
            boolean isStatic = Modifier.isStatic(field.getModifiers());
            fields += isStatic ? 0 : 1;
            boolean isFinal = Modifier.isFinal(field.getModifiers());
            Check.same("final if static: " + field, true, isFinal || !isStatic);
        }
        Check.same("fields of " + one, true, fields <= 20);
        for (Method method : one.getDeclaredMethods()) {
            Check.same("parameters of " + method, true, method.getParameterCount() <= 7);
            if (Modifier.isPrivate(method.getModifiers())) {
                boolean isOfTheFace = Arrays.stream(FACE)
                        .anyMatch(told -> told.contains(" " + method.getName() + "("));
                Check.same("a private method with a public name: " + method, false, isOfTheFace);
            }
        }
    }

    private static void theSource(String source) {
        String code = source.replaceAll("(?s)/\\*.*?\\*/", "").replaceAll("//[^\n]*", "");
        String bare = code.replaceAll("'(\\\\.|[^'\\\\\n])'", "0")
                .replaceAll("\"(\\\\.|[^\"\\\\\n])*\"", "\"\"");
        for (String pattern : LEFT_OUT) {
            Matcher found = Pattern.compile(pattern, Pattern.MULTILINE).matcher(bare);
            Check.same("left out: " + pattern, false, found.find());
        }
        Matcher thrown = Pattern.compile("\\bthrow\\b(?! new (" + String.join("|", THROWN)
                + ")\\((\"\")?\\);)").matcher(bare);
        Check.same("how it throws", false, thrown.find());
        for (char sign : source.toCharArray()) {
            if (sign > 126 || sign < 32 && sign != '\n') {
                Check.same("a sign of the source", "1 to 127", (int) sign);
            }
        }
        lengths(source);
    }

    // "Some sixty lines" leaves a little room.
    private static void lengths(String source) {
        int start = 0;
        String[] lines = source.split("\n");
        for (int i = 0; i < lines.length; i++) {
            if (lines[i].matches(" {4}( {4})?[a-zA-Z].*\\{") && !lines[i].contains(" class ")) {
                start = i;
            }
            if (lines[i].matches(" {4}( {4})?\\}")) {
                Check.same("a short method: " + lines[start].trim(), true, i - start <= 65);
            }
        }
    }
}
