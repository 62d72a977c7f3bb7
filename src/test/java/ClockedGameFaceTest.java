import java.lang.reflect.Constructor;
import java.lang.reflect.Field;
import java.lang.reflect.Method;
import java.lang.reflect.Modifier;
import java.nio.file.Files;
import java.nio.file.Path;
import java.util.Set;
import java.util.TreeSet;
import java.util.regex.Matcher;
import java.util.regex.Pattern;

/** The face of the class is the document's, and its file keeps to what a look at its words can tell of LANGUAGE.md. */
public final class ClockedGameFaceTest {
    private static final String SOURCE = "src/main/java/ClockedGame.java";
    private static final String[] FACE = {
        "int BAD", "int STATE", "int FULL", "int NONE", "int begin()", "int set(int,int)", "int setting(int)",
        "int pass(int)", "int move(int,int)", "int why(int,int)", "int seal(int,int)", "int resume()", "int ask(int)",
        "int offer(int)", "int answer(boolean)", "int resign(int)", "int claim(int)", "int at(int)", "int game(int)",
        "int player(int,int)", "int possible(int)", "int written()", "int sign(int)", "float mean(int)", "int type(int)",
        "int clear()", "int play()", "int undo()", "long fingerprint()", "ClockedGame()"};
    private static final String[] FORBIDDEN = {
        "\\bimport\\b", "\\bpackage\\b", "\\btry\\b", "\\bcatch\\b", "\\bfinally\\b", "\\bthrow\\b", "->", "::", "\\bsynchronized\\b",
        "\\bassert\\b", "\\bstatic\\s*\\{", "\\bSystem\\.(?!arraycopy)", "\\bMath\\.\\w*Exact\\b", "\\bNaN\\b", "\\blambda\\b",
        "\\b(Object|Map|HashMap|Random|Thread|Scanner|Character|Boolean|Float|Double)\\b", "@", "\\bwhile \\(true\\)", "for \\(;;\\)"};
    private static int wrong = 0;

    private static void fault(String told) {
        wrong++;
        System.out.println(told);
    }

    private static String parameters(Class<?>[] types) {
        StringBuilder text = new StringBuilder("(");
        for (Class<?> type : types) text.append(text.length() > 1 ? "," : "").append(type.getName());
        return text.append(")").toString();
    }

    private static Set<String> seenFromOutside() {
        Set<String> seen = new TreeSet<>();
        for (Field f : ClockedGame.class.getDeclaredFields())
            if (!Modifier.isPrivate(f.getModifiers())) seen.add(f.getType().getName() + " " + f.getName());
        for (Method m : ClockedGame.class.getDeclaredMethods())
            if (!Modifier.isPrivate(m.getModifiers()))
                seen.add(m.getReturnType().getName() + " " + m.getName() + parameters(m.getParameterTypes()));
        for (Constructor<?> c : ClockedGame.class.getDeclaredConstructors())
            if (!Modifier.isPrivate(c.getModifiers())) seen.add("ClockedGame" + parameters(c.getParameterTypes()));
        return seen;
    }

    private static void checkFace() {
        Set<String> due = new TreeSet<>(Set.of(FACE));
        Set<String> seen = seenFromOutside();
        if (!seen.equals(due)) fault("the face is " + seen + ", due is " + due);
        int modifiers = ClockedGame.class.getModifiers();
        if (!Modifier.isPublic(modifiers) || !Modifier.isFinal(modifiers)) fault("the class is not public and final");
    }

    private static void checkInside() {
        Set<String> names = new TreeSet<>();
        for (Method m : ClockedGame.class.getDeclaredMethods()) if (Modifier.isPublic(m.getModifiers())) names.add(m.getName());
        Class<?>[] inside = ClockedGame.class.getDeclaredClasses();
        if (inside.length > 11) fault("there are " + inside.length + " classes inside");
        for (Class<?> c : inside) {
            if (!Modifier.isStatic(c.getModifiers()) || Modifier.isPublic(c.getModifiers())) fault(c + " is not static and hidden");
            for (Method m : c.getDeclaredMethods()) {
                if (names.contains(m.getName())) fault(c + " has a method with the name of a public one: " + m.getName());
                if (m.getParameterCount() > 7) fault(m + " has more than seven parameters");
            }
            int fields = 0;
            for (Field f : c.getDeclaredFields()) {
                if (Modifier.isStatic(f.getModifiers()) && !Modifier.isFinal(f.getModifiers())) fault(f + " is not final");
                if (!Modifier.isStatic(f.getModifiers())) fields++;
            }
            if (fields > 20) fault(c + " has " + fields + " fields");
        }
    }

    private static void checkWords() throws Exception {
        String source = Files.readString(Path.of(SOURCE));
        String code = source.replaceAll("(?s)/\\*.*?\\*/", "").replaceAll("//[^\n]*", "");
        for (String word : FORBIDDEN) {
            Matcher found = Pattern.compile(word).matcher(code);
            if (found.find()) fault("the file has '" + found.group() + "'");
        }
        for (int i = 0; i < source.length(); i++) if (source.charAt(i) > 126) fault("a sign beyond 126 at " + i);
        int start = 0;
        String[] lines = source.split("\n");
        for (int i = 0; i < lines.length; i++) {
            if (lines[i].matches(" {4,8}\\S.*\\) \\{")) start = i;
            if (lines[i].matches(" {4,8}\\}") && i - start > 60) fault("a method of more than sixty lines ends in line " + (i + 1));
        }
    }

    public static void main(String[] args) throws Exception {
        checkFace();
        checkInside();
        checkWords();
        System.out.println(wrong == 0 ? "the face and the file are as due" : wrong + " faults");
        if (wrong != 0) System.exit(1);
    }
}
