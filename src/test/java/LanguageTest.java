import static java.util.Map.entry;

import java.io.IOException;
import java.lang.reflect.Constructor;
import java.lang.reflect.Field;
import java.lang.reflect.Method;
import java.lang.reflect.Modifier;
import java.nio.file.Files;
import java.nio.file.Path;
import java.util.Map;
import java.util.Set;
import java.util.TreeMap;
import java.util.regex.Matcher;
import java.util.regex.Pattern;

/** The rules of LANGUAGE.md that can be seen in the text of the class or in its face. */
public final class LanguageTest {
    /** The document's methods by name, each with its answer's type and how many ints it takes. */
    private static final Map<String, String> FACE = Map.ofEntries(
            entry("point", "int 2"), entry("drop", "int 1"), entry("move", "int 3"), entry("pointOf", "int 2"),
            entry("turn", "int 3"), entry("round", "int 4"), entry("hull", "int 0"), entry("corner", "int 1"),
            entry("area", "long 0"), entry("triangles", "int 0"), entry("triangle", "int 2"), entry("ring", "int 1"),
            entry("edge", "int 2"), entry("where", "int 2"), entry("nearest", "int 2"), entry("cross", "int 4"),
            entry("around", "int 2"), entry("begin", "int 0"), entry("held", "int 2"), entry("bad", "int 2"),
            entry("flip", "int 2"), entry("settle", "int 1"), entry("alike", "int 0"), entry("bads", "int 0"),
            entry("count", "int 1"));
    private static final Pattern FORBIDDEN = Pattern.compile(
            "\\b(throw|throws|try|catch|synchronized|assert|package|double|float|Random|Thread|native)\\b|->|::|\\w+Exact\\b");
    private static final Set<String> LIBRARY = Set.of("Math.min", "Math.max", "Math.abs", "Arrays.fill", "Arrays.copyOf",
            "Arrays.copyOfRange", "System.arraycopy", "Integer.compare", "Long.compare");
    private static final int LONGEST_METHOD = 60;
    private static int wrong = 0;

    public static void main(String[] args) throws IOException {
        String code = withoutComments(Files.readString(Path.of("src/main/java/SignBench.java")));
        Matcher found = FORBIDDEN.matcher(code);
        while (found.find()) complain("the text has '" + found.group() + "'");
        Matcher imports = Pattern.compile("import ([^;]*);").matcher(code);
        while (imports.find()) {
            if (!imports.group(1).equals("java.util.Arrays")) complain("imports " + imports.group(1));
        }
        rowsAreMadeOnce(code);
        library(code);
        methodsAreShort(code);
        face();
        for (Class<?> inner : SignBench.class.getDeclaredClasses()) nested(inner);
        System.out.println(wrong == 0 ? "the language is kept" : wrong + " rules are broken");
        if (wrong != 0) System.exit(1);
    }

    private static void complain(String what) {
        wrong++;
        System.out.println(what);
    }

    private static String withoutComments(String code) {
        return code.replaceAll("(?s)/\\*.*?\\*/", " ").replaceAll("//[^\n]*", " ");
    }

    /** All calls of a run share one room: nothing is made but in fields of a new object. */
    private static void rowsAreMadeOnce(String code) {
        for (String line : code.split("\n")) {
            if (line.contains("new ") && !line.matches("\\s*(private )?final [\\w\\[\\]]+ \\w+ = new .*;\\s*")) {
                complain("makes something in a call:" + line);
            }
        }
    }

    /** Rule 4: only what stands there, so no constants of the library's classes either. */
    private static void library(String code) {
        Matcher used = Pattern.compile("\\b(Math|Arrays|System|Integer|Long|Character|Boolean|String|Double)\\.\\w+").matcher(code);
        while (used.find()) {
            if (!LIBRARY.contains(used.group())) complain("uses " + used.group());
        }
    }

    /** Rule 11, by the indentation of the opening and the closing line. */
    private static void methodsAreShort(String code) {
        Matcher method = Pattern.compile("(?m)^((?:    ){1,2})(?!.*\\bclass\\b)\\w[^;=]*\\) \\{\n(?:(?!\\1\\}).*\n)*\\1\\}").matcher(code);
        int seen = 0;
        while (method.find()) {
            seen++;
            long lines = method.group().lines().count();
            if (lines > LONGEST_METHOD) complain(lines + " lines: " + method.group().lines().findFirst().orElse(""));
        }
        if (seen < FACE.size()) complain("only " + seen + " methods were found");
    }

    private static void face() {
        Class<?> face = SignBench.class;
        if (!Modifier.isPublic(face.getModifiers()) || !Modifier.isFinal(face.getModifiers())) complain("not public and final");
        Map<String, String> seen = new TreeMap<>();
        for (Method m : face.getDeclaredMethods()) {
            if (Modifier.isPublic(m.getModifiers())) addToFace(m, seen);
            else if (!Modifier.isPrivate(m.getModifiers()) || FACE.containsKey(m.getName())) complain("method " + m);
        }
        if (!seen.equals(FACE)) complain("the face is " + seen);
        for (Field f : face.getDeclaredFields()) if (!Modifier.isPrivate(f.getModifiers())) complain("field " + f);
        if (face.getDeclaredConstructors().length != 1) complain("more than one constructor");
        for (Constructor<?> c : face.getDeclaredConstructors()) {
            if (!Modifier.isPublic(c.getModifiers()) || c.getParameterCount() != 0) complain("constructor " + c);
        }
        fields(face);
    }

    private static void addToFace(Method m, Map<String, String> seen) {
        for (Class<?> taken : m.getParameterTypes()) if (taken != int.class) complain("takes no int: " + m);
        if (Modifier.isStatic(m.getModifiers())) complain("static " + m);
        String before = seen.put(m.getName(), m.getReturnType() + " " + m.getParameterCount());
        if (before != null) complain("a second " + m);
    }

    private static void nested(Class<?> inner) {
        if (!Modifier.isStatic(inner.getModifiers())) complain("not static: " + inner);
        for (Method m : inner.getDeclaredMethods()) {
            if (FACE.containsKey(m.getName()) || m.getParameterCount() > 7) complain("method " + m);
        }
        fields(inner);
    }

    private static void fields(Class<?> type) {
        int held = 0;
        for (Field f : type.getDeclaredFields()) {
            if (!Modifier.isStatic(f.getModifiers())) held++;
            else if (!Modifier.isFinal(f.getModifiers())) complain("static state " + f);
        }
        if (held > 20) complain("too many fields in " + type);
    }
}
