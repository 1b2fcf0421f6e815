import java.io.IOException;
import java.lang.reflect.Constructor;
import java.lang.reflect.Field;
import java.lang.reflect.Method;
import java.lang.reflect.Modifier;
import java.nio.file.Files;
import java.nio.file.Path;
import java.util.Arrays;
import java.util.List;
import java.util.Set;
import java.util.TreeSet;
import java.util.regex.Matcher;
import java.util.regex.Pattern;
import java.util.stream.Collectors;

/** The face is the document's, and the source keeps to what a text search can tell of LANGUAGE.md. */
public final class FaceTest {
    private static final Path SOURCE = Path.of("src/main/java/PamphletQuarrel.java");

    private static final String[] FACE = {
        "int print(int) IllegalArgumentException IllegalStateException",
        "int pass(int) IllegalArgumentException",
        "int mend(int,int) IndexOutOfBoundsException IllegalStateException",
        "int mendAll()",
        "int withdraw() IllegalStateException",
        "int day()",
        "int pamphlets()",
        "int authorOf(int) IndexOutOfBoundsException",
        "int dayOf(int) IndexOutOfBoundsException",
        "int wordsOf(int) IndexOutOfBoundsException",
        "int pagesOf(int) IndexOutOfBoundsException",
        "int wordsOn(int,int) IndexOutOfBoundsException",
        "int letterOf(int,int,int) IndexOutOfBoundsException",
        "boolean isSameWord(int,int,int,int) IndexOutOfBoundsException",
        "int whyNotPrinted()",
        "int quotationsOf(int) IndexOutOfBoundsException",
        "int sourceOf(int,int) IndexOutOfBoundsException",
        "int beginOf(int,int) IndexOutOfBoundsException",
        "int lengthOf(int,int) IndexOutOfBoundsException",
        "int changesByTable(int,int) IndexOutOfBoundsException",
        "int changesByPassages(int,int) IndexOutOfBoundsException",
        "int passageOf(int,int) IndexOutOfBoundsException",
        "int passageLength(int,int) IndexOutOfBoundsException",
        "int pageOf(int,int) IndexOutOfBoundsException",
        "int comesFrom(int,int) IndexOutOfBoundsException",
        "int originOf(int,int) IndexOutOfBoundsException",
        "int traceOf(int,int) IndexOutOfBoundsException",
        "int changesAtOrigin(int,int) IndexOutOfBoundsException",
        "int quotedAgain(int,int) IndexOutOfBoundsException",
        "int blameOf(int) IndexOutOfBoundsException",
        "int wrongs(int,int) IndexOutOfBoundsException",
        "int blameByAuthors()",
        "int blameBySources()",
        "double faithfulShare()",
        "boolean answers(int,int) IndexOutOfBoundsException",
        "int ladderOf(int) IndexOutOfBoundsException",
        "int laddersOf(int) IndexOutOfBoundsException",
        "int readingOf(int) IndexOutOfBoundsException",
        "int readAt(int,int) IndexOutOfBoundsException",
        "int glossary()",
        "int timesOf(int) IndexOutOfBoundsException",
        "int glossaryLetter(int,int) IndexOutOfBoundsException",
        "int append(int) IllegalArgumentException IllegalStateException",
        "int clearText()",
        "int errorPosition()",
        "int undo() IllegalStateException",
        "int savedStates()",
        "int takeSnapshot()",
        "int restoreSnapshot() IllegalStateException",
    };

    // What the rules 2 to 6, 10 and 12 leave out, as far as a word or sign shows it.
    private static final String[] LEFT_OUT = {
        "\\bimport\\b", "\\bpackage\\b", "\\btry\\b", "\\bcatch\\b", "\\bfinally\\b",
        "\\bsynchronized\\b", "\\bassert\\b", "\\binstanceof\\b", "->", "::", "Exact\\(",
        "\\bstatic\\s*\\{", "\\+\\s*\"", "\"\\s*\\+", "\\bString\\b", "\\bObject\\b",
        "\\bSystem\\.(?!arraycopy\\b)", "\\bThread\\b", "\\bRandom\\b", "@\\w",
        "\\bequals\\(", "\\bhashCode\\(", "\\btoString\\(", "while \\(true\\)", "for \\(;",
    };

    private FaceTest() {
    }

    public static void main(String[] args) throws IOException {
        theClass();
        theMembers();
        theClassesInside();
        theSource(Files.readString(SOURCE));
        Check.end();
    }

    private static void theClass() {
        Class<?> face = PamphletQuarrel.class;
        Check.same("modifiers", Modifier.PUBLIC | Modifier.FINAL, face.getModifiers());
        Check.same("package", "", face.getPackageName());
        Constructor<?>[] constructors = face.getDeclaredConstructors();
        Check.same("constructors", 1, constructors.length);
        Check.same("a public constructor", Modifier.PUBLIC, constructors[0].getModifiers());
        Check.same("without parameters", 0, constructors[0].getParameterCount());
        Check.same("NONE", -1, PamphletQuarrel.NONE);
    }

    private static void theMembers() {
        Set<String> members = new TreeSet<>();
        for (Method method : PamphletQuarrel.class.getDeclaredMethods()) {
            if (!Modifier.isPrivate(method.getModifiers())) {
                Check.same("modifiers of " + method, Modifier.PUBLIC, method.getModifiers());
                members.add(told(method));
            }
        }
        Check.same("the methods", new TreeSet<>(List.of(FACE)), members);
        for (Field field : PamphletQuarrel.class.getDeclaredFields()) {
            boolean isNone = field.getName().equals("NONE");
            Check.same("private: " + field, !isNone, Modifier.isPrivate(field.getModifiers()));
        }
    }

    private static String told(Method method) {
        StringBuilder told = new StringBuilder();
        told.append(method.getReturnType()).append(' ').append(method.getName()).append('(');
        told.append(Arrays.stream(method.getParameterTypes()).map(Class::getSimpleName)
                .collect(Collectors.joining(",")));
        told.append(')');
        for (Class<?> thrown : method.getExceptionTypes()) {
            told.append(' ').append(thrown.getSimpleName());
        }
        return told.toString();
    }

    private static void theClassesInside() {
        Class<?>[] inside = PamphletQuarrel.class.getDeclaredClasses();
        Check.same("classes: " + inside.length, true, inside.length <= 11);
        Check.same("one depth", 0,
                Arrays.stream(inside).mapToInt(c -> c.getDeclaredClasses().length).sum());
        limits(PamphletQuarrel.class);
        for (Class<?> one : inside) {
            int due = Modifier.PRIVATE | Modifier.STATIC | Modifier.FINAL;
            Check.same("modifiers of " + one, due, one.getModifiers());
            limits(one);
        }
    }

    private static void limits(Class<?> one) {
        int fields = 0;
        for (Field field : one.getDeclaredFields()) {
            boolean isStatic = Modifier.isStatic(field.getModifiers());
            fields += isStatic ? 0 : 1;
            boolean isFinal = Modifier.isFinal(field.getModifiers());
            Check.same("final if static: " + field, true, isFinal || !isStatic);
            boolean isPublic = one == PamphletQuarrel.class && field.getName().equals("NONE");
            Check.same("private: " + field, !isPublic, Modifier.isPrivate(field.getModifiers()));
        }
        Check.same("fields of " + one, true, fields <= 20);
        String faceNames = Arrays.stream(FACE).map(told -> told.replaceAll(".* (\\w+)\\(.*", "$1"))
                .collect(Collectors.joining(" ", " ", " "));
        for (Method method : one.getDeclaredMethods()) {
            Check.same("parameters of " + method, true, method.getParameterCount() <= 7);
            boolean isFaceName = faceNames.contains(" " + method.getName() + " ");
            boolean isPublic = Modifier.isPublic(method.getModifiers());
            Check.same("a face's name: " + method, isPublic, isFaceName);
        }
    }

    private static void theSource(String source) {
        String code = source.replaceAll("//[^\n]*", "").replaceAll("(?s)/\\*.*?\\*/", "");
        String bare = code.replaceAll("\"[^\"\n]*\"", "\"\"");
        for (String pattern : LEFT_OUT) {
            Matcher found = Pattern.compile(pattern).matcher(bare);
            Check.same("left out: " + pattern, false, found.find());
        }
        Matcher thrown = Pattern.compile("throw\\b(?! new (IllegalArgumentException"
                + "|IllegalStateException|IndexOutOfBoundsException)\\(\"\"\\);)").matcher(bare);
        Check.same("how it throws", false, thrown.find());
        for (char sign : source.toCharArray()) {
            if (sign > 126 || sign < 32 && sign != '\n') {
                Check.same("a sign of the source", "1 to 127", (int) sign);
            }
        }
        lengths(source);
    }

    private static void lengths(String source) {
        int start = 0;
        String[] lines = source.split("\n");
        for (int i = 0; i < lines.length; i++) {
            if (lines[i].matches(" {4}( {4})?[a-zA-Z].*\\{") && !lines[i].contains(" class ")) {
                start = i;
            }
            if (lines[i].matches(" {4}( {4})?\\}")) {
                Check.same("a short method: " + lines[start].trim(), true, i - start <= 60);
            }
            Check.same("a short line: " + (i + 1), true, lines[i].length() <= 100);
        }
    }
}
