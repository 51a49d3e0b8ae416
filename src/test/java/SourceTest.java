import java.io.IOException;
import java.nio.file.Files;
import java.nio.file.Path;
import java.util.List;
import java.util.regex.Matcher;
import java.util.regex.Pattern;

/** What LANGUAGE.md forbids and a look at the text can find; where the text is found by the working folder. */
public final class SourceTest {
    private static final Path SOURCE = Path.of("src/main/java/ChordHerds.java");
    private static final int METHOD_LINES = 60;
    private static final int PARAMETERS = 7;

    public static void main(String[] args) throws IOException {
        String code = Files.readString(SOURCE).replaceAll("(?s)/\\*.*?\\*/", "").replaceAll("//[^\n]*", "");
        noForbiddenWords(code);
        noObjectsButInFieldsAndConstructors(code);
        methodsAreShort(Files.readAllLines(SOURCE));
        fewParameters(code);
        Check.due("classes of some twelve", count(code, "\\bclass\\b") <= 12, true);
        Check.finish("SourceTest");
    }

    private static int count(String code, String pattern) {
        int many = 0;
        Matcher m = Pattern.compile(pattern).matcher(code);
        while (m.find()) {
            many++;
        }
        return many;
    }

    private static void noForbiddenWords(String code) {
        String[] words = {"throw", "throws", "try", "catch", "finally", "synchronized", "assert", "instanceof", "double",
            "float", "System\\.(?!arraycopy)", "->", "::", "Random", "Thread", "Object", "protected", "package", "Exact",
            "hashCode", "equals", "toString", "volatile", "native", "while \\(true\\)", "for \\(;;"};
        for (String word : words) {
            String pattern = Character.isLetter(word.charAt(0)) ? "\\b" + word : word;
            Check.due("how often " + word, count(code, pattern), 0);
        }
        Check.due("imports", count(code, "import (?!java\\.util\\.Arrays;)"), 0);
        Check.due("static fields that aren't final", count(code, "static (?!final)[a-z]+(\\[\\])? \\w+( =|;)"), 0);
    }

    private static void noObjectsButInFieldsAndConstructors(String code) {
        int all = count(code, "\\bnew\\b");
        int fields = count(code, "(?m)^ {4,8}(private )?(final )?[\\w\\[\\]]+ \\w+ = new ");
        int constructors = count(code, "boxes\\[box\\] = new Earnest\\(\\)|reader = new Reader\\(text\\)");
        Check.due("objects made elsewhere", all - fields - constructors, 0);
    }

    private static void methodsAreShort(List<String> lines) {
        int from = -1;
        String end = "";
        for (int i = 0; i < lines.size(); i++) {
            String line = lines.get(i);
            if (from < 0 && line.matches(" {4,8}[\\w\\[\\] ]+\\([^=;]*\\) \\{")) {
                from = i;
                end = line.replaceAll("\\S.*", "") + "}";
            } else if (from >= 0 && line.equals(end)) {
                Check.due("lines of " + lines.get(from).trim(), i - from < METHOD_LINES, true);
                from = -1;
            }
        }
    }

    private static void fewParameters(String code) {
        Matcher m = Pattern.compile("(?m)^ {4,8}[\\w\\[\\] ]+ (\\w+)\\(([^()]*)\\) \\{").matcher(code);
        while (m.find()) {
            Check.due("parameters of " + m.group(1), m.group(2).split(",").length <= PARAMETERS, true);
        }
    }
}
