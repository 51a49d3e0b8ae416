import java.io.IOException;
import java.lang.invoke.MethodHandles;
import java.lang.reflect.Method;
import java.lang.reflect.Modifier;
import java.nio.file.Files;
import java.nio.file.Path;
import java.util.regex.Matcher;
import java.util.regex.Pattern;
import javax.tools.ToolProvider;

/** README.md: its program compiles, each of its calls answers what stands behind it, and no call of the face is left out. */
public final class ReadmeTest {
    private static final Pattern PROGRAM = Pattern.compile("(?s)```java\n(.*?)```");
    private static final Pattern CALL = Pattern.compile("(?m)^( +)(x\\.\\w+\\(.*\\)); +// (-?\\d+|true|false)\\b.*$");
    private static final int CALLS_AT_LEAST = 29;

    public static void main(String[] args) throws IOException, ReflectiveOperationException {
        String readme = Files.readString(Path.of("README.md"));
        for (Method method : ChordHerds.class.getDeclaredMethods()) {
            if (Modifier.isPublic(method.getModifiers())) {
                Check.due("README.md has " + method.getName(), readme.contains("`" + method.getName() + "`"), true);
            }
        }
        Matcher program = PROGRAM.matcher(readme);
        Check.due("a program in README.md", program.find(), true);
        run(program.group(1));
        Check.finish("ReadmeTest");
    }

    private static void run(String program) throws IOException, ReflectiveOperationException {
        Matcher call = CALL.matcher(program);
        Check.due("calls with their answers", call.results().count() >= CALLS_AT_LEAST, true);
        String asked = call.replaceAll("$1Check.due(\"$2\", $2, $3);");
        Path folder = Files.createTempDirectory("readme");
        Path source = folder.resolve("Evening.java");
        Path compiled = folder.resolve("Evening.class");
        try {
            Files.writeString(source, asked);
            int result = ToolProvider.getSystemJavaCompiler().run(null, null, null, "-cp",
                System.getProperty("java.class.path"), "-d", folder.toString(), source.toString());
            Check.due("the compiler's answer", result, 0);
            // beside this class, so that it may use Check
            Class<?> evening = MethodHandles.lookup().defineClass(Files.readAllBytes(compiled));
            evening.getMethod("main", String[].class).invoke(null, (Object) new String[0]);
        } finally {
            Files.deleteIfExists(source);
            Files.deleteIfExists(compiled);
            Files.delete(folder);
        }
    }
}
