import java.lang.reflect.InvocationTargetException;
import java.lang.reflect.Method;
import java.lang.reflect.Modifier;
import java.util.Arrays;
import java.util.Comparator;
import java.util.List;
import java.util.Random;

/** Calls of all sorts in all states: nothing but what the face names is thrown, and such a call changes nothing. */
public final class AnyCallTest {
    private static final int OBJECTS = 3000;
    private static final int CALLS = 40;
    private static final String[] PIECES = {
        "number", "name", "empty", "blank", "line", "deeper", "back", "\"do\"", "\"a\"", "'+", "'-", "'(", "')", "'.", "A", "B",
        "C", "(", ")", "(name", "'! )", "*", "?", "|", "~", ";", "=", "+", "number + 7", ";B=", ";C=", "A=", "7", "x", "'", "\"",
    };
    private static final int[] INTS = {
        -1, 0, 1, 2, 3, 4, 5, 6, 7, 10, 20, 21, 60, 99, 100, 159, 160, 239, 240, Integer.MIN_VALUE, Integer.MAX_VALUE,
    };
    private static final long[] LONGS = {
        -1, 0, 1, 26, 27, 32, 33, 9999, 10000, 1L << 30, 1L << 32, Long.MIN_VALUE, Long.MAX_VALUE,
    };

    public static void main(String[] args) throws ReflectiveOperationException {
        Random random = new Random(20261116);
        Method[] face = Arrays.stream(TwoWayGrammar.class.getDeclaredMethods())
            .filter(m -> Modifier.isPublic(m.getModifiers()))
            .sorted(Comparator.comparing(Method::getName)).toArray(Method[]::new);
        int good = 0;
        for (int n = 0; n < OBJECTS; n++) {
            Desk desk = new Desk();
            describe(desk, random);
            good += desk.g.compile() == 0 ? 1 : 0;
            for (int call = 0; call < CALLS / 2; call++) {
                call(desk.g, face[random.nextInt(face.length)], random);
            }
            desk.write(1, input(random));
            for (int call = 0; call < CALLS / 2; call++) {
                call(desk.g, face[random.nextInt(face.length)], random);
            }
        }
        Desk.due("some descriptions were good", good > OBJECTS / 10 && good < OBJECTS, true);
        Desk.end();
    }

    private static void describe(Desk desk, Random random) {
        if (random.nextInt(4) == 0) {
            desk.g.sample(random.nextInt(3));
            return;
        }
        StringBuilder text = new StringBuilder("A=");
        int pieces = random.nextInt(random.nextInt(4) == 0 ? 40 : 6);
        for (int k = 0; k < pieces; k++) {
            text.append(PIECES[random.nextInt(PIECES.length)]).append(random.nextBoolean() ? " " : "");
        }
        text.append(random.nextInt(8) == 0 ? "" : ";");
        desk.write(0, text.substring(0, Math.min(text.length(), 100)));
    }

    private static String input(Random random) {
        String[] tokens = {"a", "do", "zz", "5", "9999", "+", "-", "(", ")", ".", "!", "{", "}", "@", "12345", " ", "\n"};
        StringBuilder text = new StringBuilder();
        int pieces = random.nextInt(8);
        for (int k = 0; k < pieces; k++) {
            text.append(tokens[random.nextInt(tokens.length)]).append(random.nextBoolean() ? " " : "");
        }
        return text.toString();
    }

    private static Object argument(Class<?> type, Random random) {
        if (type == long.class) {
            return random.nextBoolean() ? LONGS[random.nextInt(LONGS.length)] : random.nextLong();
        }
        if (type == char.class) {
            return (char) (random.nextBoolean() ? random.nextInt(128) : random.nextInt(65536));
        }
        return random.nextBoolean() ? INTS[random.nextInt(INTS.length)] : Integer.valueOf(random.nextInt(4));
    }

    private static void call(TwoWayGrammar g, Method method, Random random) throws IllegalAccessException {
        Class<?>[] types = method.getParameterTypes();
        Object[] arguments = new Object[types.length];
        for (int k = 0; k < types.length; k++) {
            arguments[k] = argument(types[k], random);
        }
        boolean look = random.nextInt(8) == 0;
        String before = look ? counts(g) : "";
        try {
            method.invoke(g, arguments);
        } catch (InvocationTargetException thrown) {
            Class<?> what = thrown.getCause().getClass();
            boolean named = List.of(method.getExceptionTypes()).contains(what);
            Desk.due(method.getName() + Arrays.toString(arguments) + " throws " + what.getSimpleName(), named, true);
            Desk.due("changes nothing", look ? counts(g) : "", before);
        }
    }

    private static String counts(TwoWayGrammar g) {
        StringBuilder all = new StringBuilder();
        for (int what = 0; what <= 6; what++) {
            all.append(g.count(what)).append(' ');
        }
        return all.toString();
    }
}
