import java.io.IOException;
import java.lang.reflect.Constructor;
import java.lang.reflect.Field;
import java.lang.reflect.Method;
import java.lang.reflect.Modifier;
import java.nio.file.Files;
import java.nio.file.Path;
import java.util.ArrayList;
import java.util.Arrays;
import java.util.List;
import java.util.Set;
import java.util.TreeSet;
import java.util.regex.Matcher;
import java.util.regex.Pattern;

/** The face is that of the document, and members are as LANGUAGE.md's rules 1 to 3, 5 and 11 want them. */
public final class FaceTest {
    private static final Path DOCUMENT = Path.of("../shared/DOC.md");
    private static final Pattern METHOD = Pattern.compile("(?m)^    public (?:(\\w+) )?(\\w+)\\(([^)]*)\\);$");
    private static final Pattern CONSTANT = Pattern.compile("(?m)^    public static final int (\\w+) = (-?\\d+);$");
    private static final int FIELDS_MOST = 20;
    private static final int CLASSES_MOST = 12;
    private static final int PARAMETERS_MOST = 7;
    private static final Set<Class<?>> CONSTANT_TYPES = Set.of(int.class, long.class, boolean.class, char.class, String.class,
        int[].class, long[].class, char[].class, byte[].class);

    public static void main(String[] args) throws IOException, ReflectiveOperationException {
        String document = Files.readString(DOCUMENT);
        faceOfTheDocument(document);
        constantsOfTheDocument(document);
        Check.due("public and final", ChordHerds.class.getModifiers(), Modifier.PUBLIC | Modifier.FINAL);
        List<Class<?>> classes = new ArrayList<>(List.of(ChordHerds.class.getDeclaredClasses()));
        for (Class<?> inside : classes) {
            Check.due("private " + inside, Modifier.isPrivate(inside.getModifiers()), true);
            Check.due("static " + inside, Modifier.isStatic(inside.getModifiers()), true);
            Check.due("classes in " + inside, inside.getDeclaredClasses().length, 0);
        }
        classes.add(ChordHerds.class);
        Check.due("classes of some twelve", classes.size() <= CLASSES_MOST, true);
        Set<String> face = namesOfTheFace();
        for (Class<?> each : classes) {
            methodsOf(each, face);
            fieldsOf(each);
        }
        Check.finish("FaceTest");
    }

    private static void faceOfTheDocument(String document) {
        Set<String> due = new TreeSet<>();
        Matcher m = METHOD.matcher(document);
        while (m.find()) {
            due.add((m.group(1) == null ? "" : m.group(1)) + " " + m.group(2) + "(" + m.group(3).replaceAll(" \\w+(, |$)", "$1") + ")");
        }
        Set<String> got = new TreeSet<>();
        for (Constructor<?> constructor : ChordHerds.class.getDeclaredConstructors()) {
            Check.due("a public constructor", Modifier.isPublic(constructor.getModifiers()), true);
            got.add(" ChordHerds(" + types(constructor.getParameterTypes()) + ")");
        }
        for (Method method : ChordHerds.class.getDeclaredMethods()) {
            if (!Modifier.isPrivate(method.getModifiers())) {
                Check.due("modifiers of " + method, method.getModifiers(), Modifier.PUBLIC);
                got.add(method.getReturnType() + " " + method.getName() + "(" + types(method.getParameterTypes()) + ")");
            }
        }
        Check.due("a face in the document", due.size(), 30);
        Check.due("the face " + got + " of " + due, got.equals(due), true);
    }

    private static String types(Class<?>[] types) {
        return String.join(", ", Arrays.stream(types).map(Class::getName).toList());
    }

    private static void constantsOfTheDocument(String document) throws ReflectiveOperationException {
        Set<String> due = new TreeSet<>();
        Matcher m = CONSTANT.matcher(document);
        while (m.find()) {
            due.add(m.group(1));
            Check.due(m.group(1), ChordHerds.class.getField(m.group(1)).getInt(null), Integer.parseInt(m.group(2)));
        }
        for (Field field : ChordHerds.class.getDeclaredFields()) {
            Check.due("not private: " + field, due.contains(field.getName()) || Modifier.isPrivate(field.getModifiers()), true);
        }
    }

    private static Set<String> namesOfTheFace() {
        Set<String> names = new TreeSet<>();
        for (Method method : ChordHerds.class.getMethods()) {
            names.add(method.getName());
        }
        return names;
    }

    private static void methodsOf(Class<?> each, Set<String> face) {
        for (Method method : each.getDeclaredMethods()) {
            boolean isPublic = Modifier.isPublic(method.getModifiers());
            Check.due("the name of " + method, isPublic || !face.contains(method.getName()), true);
            Check.due("parameters of " + method, method.getParameterCount() <= PARAMETERS_MOST, true);
            Check.due("protected " + method, Modifier.isProtected(method.getModifiers()), false);
        }
    }

    private static void fieldsOf(Class<?> each) {
        int fields = 0;
        for (Field field : each.getDeclaredFields()) {
            if (Modifier.isStatic(field.getModifiers())) {
                Check.due("final " + field, Modifier.isFinal(field.getModifiers()), true);
                Check.due("type of " + field, CONSTANT_TYPES.contains(field.getType()), true);
            } else {
                fields++;
            }
        }
        Check.due("fields of " + each, fields <= FIELDS_MOST, true);
    }
}
