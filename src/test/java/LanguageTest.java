import java.io.IOException;
import java.lang.reflect.Constructor;
import java.lang.reflect.Field;
import java.lang.reflect.Method;
import java.lang.reflect.Modifier;
import java.nio.file.Files;
import java.nio.file.Path;
import java.util.Map;
import java.util.Set;
import java.util.TreeMap;
import java.util.TreeSet;
import java.util.regex.Matcher;
import java.util.regex.Pattern;

/** What a machine can tell of ../shared/LANGUAGE.md: the face, forbidden words, lengths. */
final class LanguageTest {
    private static final Path SOURCE = Path.of("src/main/java/SilenceMatch.java");

    private LanguageTest() {
    }

    public static void main(String[] args) throws IOException {
        String code = withoutComments(Files.readString(SOURCE));
        forbiddenWords(code);
        face();
        insides();
        methodLengths(code);
        callDepth(code);
        nothingIsMadeLater(code);
        Check.finish("LanguageTest");
    }

    private static String withoutComments(String source) {
        return source.replaceAll("(?s)/\\*.*?\\*/", "").replaceAll("//[^\n]*", "");
    }

    private static void forbiddenWords(String code) {
        String[] words = {"\\bthrow\\b", "\\bthrows\\b", "\\btry\\b", "\\bcatch\\b", "\\bsynchronized\\b", "\\bassert\\b",
            "\\bimport\\b", "\\bpackage\\b", "->", "::", "Exact\\b", "\\bprotected\\b", "\\bhashCode\\b", "\\bstatic \\{",
            "\\bRandom\\b", "\\bThread\\b", "nanoTime", "currentTime", "[^\\x00-\\x7F]"};
        for (String word : words) {
            Check.due("forbidden: " + word, Pattern.compile(word).matcher(code).find() ? 1 : 0, 0);
        }
        Check.due("public members and the class", occurrences(code, "\\bpublic\\b"), 1 + 1 + 1 + 69);
    }

    private static int occurrences(String code, String word) {
        Matcher m = Pattern.compile(word).matcher(code);
        int n = 0;
        while (m.find()) {
            n++;
        }
        return n;
    }

    private static void face() {
        Check.due("public and final", Modifier.isFinal(SilenceMatch.class.getModifiers()) ? 1 : 0, 1);
        Set<String> open = new TreeSet<>();
        Set<String> hidden = new TreeSet<>();
        for (Method m : SilenceMatch.class.getDeclaredMethods()) {
            boolean isPublic = Modifier.isPublic(m.getModifiers());
            Check.due("public or private: " + m, isPublic || Modifier.isPrivate(m.getModifiers()) || m.isSynthetic() ? 1 : 0, 1);
            (isPublic ? open : hidden).add(m.getName());
        }
        for (Class<?> inside : SilenceMatch.class.getDeclaredClasses()) {
            for (Method m : inside.getDeclaredMethods()) {
                hidden.add(m.getName());
                Check.due("at most seven parameters: " + m, m.getParameterCount() <= 7 ? 1 : 0, 1);
            }
        }
        hidden.retainAll(open);
        Check.due("names of public methods used again: " + hidden, hidden.size(), 0);
        for (Field f : SilenceMatch.class.getDeclaredFields()) {
            boolean fine = f.getName().equals("NONE") || Modifier.isPrivate(f.getModifiers());
            Check.due("private: " + f, fine ? 1 : 0, 1);
        }
        for (Constructor<?> c : SilenceMatch.class.getDeclaredConstructors()) {
            Check.due("one constructor", c.getParameterCount(), 0);
        }
    }

    private static void insides() {
        Class<?>[] inside = SilenceMatch.class.getDeclaredClasses();
        Check.due("at most twelve classes", inside.length + 1 <= 12 ? 1 : 0, 1);
        for (Class<?> c : inside) {
            Check.due("static: " + c, Modifier.isStatic(c.getModifiers()) ? 1 : 0, 1);
            int fields = 0;
            for (Field f : c.getDeclaredFields()) {
                boolean constant = Modifier.isStatic(f.getModifiers());
                Check.due("static and not final: " + f, constant && !Modifier.isFinal(f.getModifiers()) ? 1 : 0, 0);
                fields += constant ? 0 : 1;
            }
            Check.due("at most twenty fields: " + c, fields <= 20 ? 1 : 0, 1);
        }
    }

    /** By names alone: two methods of one name count as one, which can only make it deeper. */
    private static void callDepth(String code) {
        Map<String, Set<String>> calls = new TreeMap<>();
        Matcher m = Pattern.compile("(?ms)^( +)[^\\n=;]*?(\\w+)\\([^()]*\\) \\{\\n(.*?)^\\1\\}").matcher(code);
        while (m.find()) {
            Set<String> called = calls.computeIfAbsent(m.group(2), name -> new TreeSet<>());
            Matcher call = Pattern.compile("\\b(\\w+)\\(").matcher(m.group(3));
            while (call.find()) {
                called.add(call.group(1));
            }
        }
        int deepest = 0;
        for (String name : calls.keySet()) {
            deepest = Math.max(deepest, depth(name, calls, new TreeSet<>()));
        }
        Check.due("methods found", calls.size() > 120 ? 1 : 0, 1);
        Check.due("calls at most eight deep, not " + deepest, deepest <= 8 ? 1 : 0, 1);
    }

    private static int depth(String name, Map<String, Set<String>> calls, Set<String> open) {
        // Recursion (of Cover alone) is counted once: its depth is bounded by the CELLS.
        if (!calls.containsKey(name) || !open.add(name)) {
            return 0;
        }
        int deepest = 0;
        for (String called : calls.get(name)) {
            deepest = Math.max(deepest, depth(called, calls, open));
        }
        open.remove(name);
        return deepest + 1;
    }

    /** So that what a run makes does not grow with its calls: all rows are made with the object. */
    private static void nothingIsMadeLater(String code) {
        int start = code.indexOf("public SilenceMatch() {");
        int end = code.indexOf("\n    }\n", start);
        String rest = code.substring(0, start) + code.substring(end);
        for (String line : rest.split("\n")) {
            boolean field = line.matches(" +(private )?final [\\w\\[\\]]+ \\w+ = new .*;");
            Check.due("made outside of a constructor: " + line, line.contains("new ") && !field ? 1 : 0, 0);
        }
    }

    private static void methodLengths(String code) {
        Matcher m = Pattern.compile("(?ms)^( +)[^\\n=;]*\\) \\{\\n(.*?)^\\1\\}").matcher(code);
        while (m.find()) {
            long lines = m.group(2).lines().count();
            Check.due("lines of " + m.group(0).lines().findFirst().orElse(""), lines <= 60 ? 1 : 0, 1);
        }
    }
}
