import java.lang.reflect.Member;
import java.lang.reflect.Method;
import java.lang.reflect.Modifier;
import java.nio.file.Files;
import java.nio.file.Path;
import java.util.Arrays;
import java.util.HashSet;
import java.util.List;
import java.util.Set;
import java.util.TreeSet;
import java.util.regex.Matcher;
import java.util.regex.Pattern;

/** The public face is the document's, and the source keeps to those rules of LANGUAGE.md that can be seen in its lines. */
public final class LanguageTest {
    private static final String[] FACE = {"int sign(int)", "boolean end(int)", "int avenue()", "int hearses()", "int mourners()",
        "int weather()", "int rule()", "int hearse(int,int)", "int mourner(int,int)", "int sheet(int,int,int,int)",
        "int steps(int)", "int turnsTo(int)", "int pushes(int,int)", "int swaps(int,int)", "int hour()", "int undo()",
        "int line()", "int ahead(int)", "int arrives(int)", "int jam(int)", "int passes(int,int)", "int ends(int)",
        "int right()", "int order()", "int stands(int)", "int when(int)", "int mends(int)", "int misleads()", "int crowd()",
        "int shares(int)", "int strangers()", "int doubts()", "int heard(int,int)", "int forget()", "int fits()",
        "int rains(int,int,int)", "int law()", "int rests(int)", "int years(int,int)", "boolean keep(int)",
        "boolean again(int)", "int count(int)", "long row(int)"};

    private static final String[] FORBIDDEN = {"->", "::", "\\bfinally\\b", "\\bsynchronized\\b", "\\bassert\\b", "\\bcatch\\b",
        "\\btry\\b", "Exact\\(", "\\bstatic \\{", "\\bdouble\\b", "\\bfloat\\b", "\\bHash", "\\bMAX_VALUE\\b", "\\bMIN_VALUE\\b",
        "\\.equals\\(", "\\.hashCode\\(", "\\bSystem\\.(?!arraycopy)", "\\bThread\\b", "\\bRandom\\b", "\" \\+|\\+ \"",
        "\\bString\\.", "\\bvar\\b", "\\byield\\b", "\\bpackage\\b", "\\bprotected\\b", "\\bnative\\b", "while \\(true\\)", ";;"};

    public static void main(String[] args) throws Exception {
        face();
        source();
        Due.end();
    }

    private static void face() {
        Class<?> x = BehindAnotherHearse.class;
        Set<String> got = new TreeSet<>();
        Set<String> names = new HashSet<>();
        for (Method m : x.getDeclaredMethods()) {
            String types = String.join(",", Arrays.stream(m.getParameterTypes()).map(Class::getName).toList());
            if (Modifier.isPublic(m.getModifiers())) {
                got.add(m.getReturnType().getName() + " " + m.getName() + "(" + types + ")");
                names.add(m.getName());
            } else {
                isPrivate(m);
            }
        }
        Due.is("the face is the document's: " + got, got.equals(new TreeSet<>(List.of(FACE))), true);
        for (Method m : x.getDeclaredMethods()) {
            Due.is(m + " bears a name of the face", Modifier.isPrivate(m.getModifiers()) && names.contains(m.getName()), false);
        }
        for (Member f : x.getDeclaredFields()) {
            if (!f.getName().equals("NONE")) {
                isPrivate(f);
            }
        }
        Due.is("constructors", x.getDeclaredConstructors().length, 1);
        Due.is("public and final", Modifier.isPublic(x.getModifiers()) && Modifier.isFinal(x.getModifiers()), true);
        Due.is("classes", x.getDeclaredClasses().length <= 12, true);
        for (Class<?> inside : x.getDeclaredClasses()) {
            Due.is(inside + " is static", Modifier.isStatic(inside.getModifiers()), true);
            Due.is(inside + " is not public", Modifier.isPublic(inside.getModifiers()), false);
        }
    }

    private static void isPrivate(Member m) {
        Due.is(m + " is private", m.isSynthetic() || Modifier.isPrivate(m.getModifiers()), true);
    }

    private static void source() throws Exception {
        String text = Files.readString(Path.of("src/main/java/BehindAnotherHearse.java"));
        String code = text.replaceAll("(?s)/\\*.*?\\*/", "").replaceAll("//[^\n]*", "");
        Due.is("one import", Pattern.compile("\\bimport\\b").matcher(code).results().count(), 1);
        Due.is("the import", code.contains("import java.util.NoSuchElementException;"), true);
        for (String forbidden : FORBIDDEN) {
            Matcher m = Pattern.compile(forbidden).matcher(code);
            Due.is("forbidden: " + forbidden, m.find(), false);
        }
        Due.is("signs 1 to 127 alone", text.chars().allMatch(c -> c > 0 && c < 128), true);
        methodsAreShort(text.split("\n"));
    }

    /** A method begins with a line that opens a brace at the depth of members, and ends with the brace at that depth. */
    private static void methodsAreShort(String[] lines) {
        Pattern head = Pattern.compile("^( {4}| {8})(?! )(?!if|for|while|switch|}|private static final class)[^;]*\\) [^;]*\\{$");
        for (int i = 0; i < lines.length; i++) {
            Matcher m = head.matcher(lines[i]);
            if (m.find()) {
                int end = i;
                while (end < lines.length && !lines[end].equals(m.group(1) + "}")) {
                    end++;
                }
                Due.is(lines[i].trim() + " is short", end - i <= 60, true);
            }
        }
    }
}
