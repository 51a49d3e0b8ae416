import java.io.IOException;
import java.lang.reflect.Method;
import java.nio.file.Files;
import java.nio.file.Path;
import java.util.ArrayList;
import java.util.List;
import java.util.Map;
import java.util.Set;
import java.util.TreeMap;
import java.util.TreeSet;
import java.util.regex.Matcher;
import java.util.regex.Pattern;

/** What LANGUAGE.md forbids and a look at the text can find; where the text is found by the working folder. */
public final class SourceTest {
    private static final Path SOURCE = Path.of("src/main/java/ChordHerds.java");
    private static final int METHOD_LINES = 60;
    private static final int DEEP = 8;
    private static final Pattern METHOD =
        Pattern.compile("(?m)^( {4}| {8})(?! )[\\w\\[\\] ]+ (\\w+)\\([^()]*\\) \\{\n(?s:(.*?))^\\1\\}");

    public static void main(String[] args) throws IOException {
        String code = Files.readString(SOURCE).replaceAll("(?s)/\\*.*?\\*/", "").replaceAll("//[^\n]*", "");
        noForbiddenWords(code);
        noObjectsButInFieldsAndConstructors(code);
        methodsAreShort(Files.readAllLines(SOURCE));
        callsGoEightDeep(code);
        Check.finish("SourceTest");
    }

    private static int count(String code, String pattern) {
        int many = 0;
        Matcher m = Pattern.compile(pattern).matcher(code);
        while (m.find()) {
            many++;
        }
        return many;
    }

    private static void noForbiddenWords(String code) {
        String[] words = {"throw", "throws", "try", "catch", "finally", "synchronized", "assert", "instanceof", "double",
            "float", "System\\.(?!arraycopy)", "->", "::", "Random", "Thread", "Object", "protected", "package", "Exact",
            "hashCode", "equals", "toString", "volatile", "native", "while \\(true\\)", "for \\(;;"};
        for (String word : words) {
            String pattern = Character.isLetter(word.charAt(0)) ? "\\b" + word : word;
            Check.due("how often " + word, count(code, pattern), 0);
        }
        Check.due("imports", count(code, "import (?!java\\.util\\.Arrays;)"), 0);
        Check.due("static fields that aren't final", count(code, "static (?!final)[a-z]+(\\[\\])? \\w+( =|;)"), 0);
    }

    private static void noObjectsButInFieldsAndConstructors(String code) {
        int all = count(code, "\\bnew\\b");
        int fields = count(code, "(?m)^ {4,8}(private )?(final )?[\\w\\[\\]]+ \\w+ = new ");
        int constructors = count(code, "boxes\\[box\\] = new Earnest\\(\\)|reader = new Reader\\(text\\)");
        Check.due("objects made elsewhere", all - fields - constructors, 0);
    }

    private static void methodsAreShort(List<String> lines) {
        int from = -1;
        String end = "";
        for (int i = 0; i < lines.size(); i++) {
            String line = lines.get(i);
            if (from < 0 && line.matches(" {4,8}[\\w\\[\\] ]+\\([^=;]*\\) \\{")) {
                from = i;
                end = line.replaceAll("\\S.*", "") + "}";
            } else if (from >= 0 && line.equals(end)) {
                Check.due("lines of " + lines.get(from).trim(), i - from < METHOD_LINES, true);
                from = -1;
            }
        }
    }

    /**
     * A call goes to all methods of its name here, so some chains are longer than any that can come; a method
     * that calls itself is recursion, and no others call one another.
     */
    private static void callsGoEightDeep(String code) {
        Map<String, Set<String>> calls = new TreeMap<>();
        Matcher m = METHOD.matcher(code);
        while (m.find()) {
            Set<String> called = calls.computeIfAbsent(m.group(2), name -> new TreeSet<>());
            Matcher call = Pattern.compile("(\\w+)\\(").matcher(m.group(3));
            while (call.find()) {
                called.add(call.group(1));
            }
            called.remove(m.group(2));
        }
        Check.due("methods found " + calls.keySet(), calls.keySet().equals(namesOfMethods()), true);
        for (String name : calls.keySet()) {
            int deep = deep(name, calls, 0);
            Check.due("calls from " + name + ", " + deep + " deep", deep <= DEEP, true);
        }
    }

    private static Set<String> namesOfMethods() {
        List<Class<?>> classes = new ArrayList<>(List.of(ChordHerds.class.getDeclaredClasses()));
        classes.add(ChordHerds.class);
        // the constructor reads like a method
        Set<String> names = new TreeSet<>(Set.of("ChordHerds"));
        for (Class<?> each : classes) {
            for (Method method : each.getDeclaredMethods()) {
                names.add(method.getName());
            }
        }
        return names;
    }

    private static int deep(String name, Map<String, Set<String>> calls, int open) {
        int most = 0;
        for (String called : calls.get(name)) {
            if (calls.containsKey(called) && open <= DEEP) {
                most = Math.max(most, deep(called, calls, open + 1));
            }
        }
        return most + 1;
    }
}
