import java.lang.reflect.InvocationTargetException;
import java.lang.reflect.Method;
import java.lang.reflect.Modifier;
import java.util.ArrayList;
import java.util.Comparator;
import java.util.List;
import java.util.Random;

/** Any int at all for each parameter, in many states: no call throws, and the face is the document's. */
public final class AnyCallTest {
    private static final int[] EDGES = {Integer.MIN_VALUE, Integer.MIN_VALUE + 1, -4096, -100, -3, -2, -1, 0, 1, 2, 3, 4, 5,
        8, 9, 10, 11, 12, 19, 20, 21, 31, 32, 33, 39, 40, 63, 64, 94, 95, 96, 97, 98, 99, 100, 199, 200, 201, 998, 999, 1000,
        1001, 1499, 1500, 1501, 2047, 2048, 4095, 4096, 99999, 100000, 100001, 1 << 30, Integer.MAX_VALUE - 1,
        Integer.MAX_VALUE};
    private static final String FACE = "about back bell came chord comes crack cracked dealt end evening fault feed first "
        + "fresh hear image later lies note parted sets sound spring stand untell valley walk years ";
    private static final String[] TEXTS = {
        "",
        "herd h;beast a of h bell 0 loud 10;stranger s bell 0 loud 7;beast b of h bell 4 loud 6;ear e at 0;ear f at 10;",
        "herd h;herd g;herd i;beast a of h bell 0 loud 99;beast b of g bell 0 loud 99;beast c of i bell 0 loud 99;"
            + "beast d of h bell 0 loud 99;beast e of g bell 0 loud 99;beast f of i bell 0 loud 99;"
            + "beast g of h bell 0 loud 99;beast h of g bell 0 loud 99;beast i of i bell 0 loud 99;"
            + "stranger s bell 0 loud 99;stranger t bell 0 loud 99;ear e at 0;ear f at 99;ear g at 50;ear h at 50;"
            + "beside a b;beside b c;",
        "stranger s bell 11 loud 1;ear e at 99;ear f at 99;",
        "herd h;beast a of h bell 0 loud 1;beast b of h bell 1 loud 2;beast c of h bell 2 loud 3;"
            + "beast d of h bell 3 loud 4;beast e of h bell 4 loud 5;beast f of h bell 5 loud 6;"
            + "beast g of h bell 6 loud 7;beast i of h bell 7 loud 8;ear e at 3;",
    };

    public static void main(String[] args) {
        List<Method> face = face();
        Random chance = new Random(1);
        for (int run = 0; run < 500; run++) {
            ChordHerds x = new ChordHerds();
            Check.tape(x, TEXTS[run % TEXTS.length]);
            x.valley();
            for (int i = 0; i < 400; i++) {
                call(x, face.get(chance.nextInt(face.size())), chance, run);
            }
        }
        Check.finish("AnyCallTest");
    }

    private static List<Method> face() {
        List<Method> face = new ArrayList<>();
        for (Method method : ChordHerds.class.getDeclaredMethods()) {
            if (!Modifier.isPrivate(method.getModifiers())) {
                face.add(method);
            }
        }
        face.sort(Comparator.comparing(Method::getName));
        StringBuilder names = new StringBuilder();
        face.forEach(method -> names.append(method.getName()).append(' '));
        Check.due("the face " + names, names.toString().equals(FACE), true);
        Check.due("NONE", ChordHerds.NONE, -1);
        Check.due("final", Modifier.isFinal(ChordHerds.class.getModifiers()), true);
        return face;
    }

    private static void call(ChordHerds x, Method method, Random chance, int run) {
        Class<?>[] sorts = method.getParameterTypes();
        Object[] args = new Object[sorts.length];
        StringBuilder told = new StringBuilder("run " + run + " " + method.getName());
        for (int i = 0; i < sorts.length; i++) {
            args[i] = sorts[i] == boolean.class ? (Object) chance.nextBoolean() : (Object) number(chance);
            told.append(' ').append(args[i]);
        }
        boolean answered = true;
        try {
            method.invoke(x, args);
        } catch (InvocationTargetException | IllegalAccessException e) {
            answered = false;
            told.append(' ').append(e.getCause());
        }
        Check.due(told.toString(), answered, true);
    }

    private static int number(Random chance) {
        return switch (chance.nextInt(8)) {
            case 0 -> chance.nextInt();
            case 1, 2 -> EDGES[chance.nextInt(EDGES.length)];
            case 3 -> chance.nextInt(100);
            default -> chance.nextInt(5);
        };
    }
}
