import java.lang.reflect.InvocationTargetException;
import java.lang.reflect.Method;
import java.util.Arrays;
import java.util.List;
import java.util.Random;

/**
 * Runs of calls on the class and on its twin: both answer alike, also where no one has worked the answers out by hand.
 * More runs than those of .ci/run: java TwinTest objects seed.
 */
public final class TwinTest {
    private static final int OBJECTS = 2500;
    /** What later calls answer is free. */
    private static final int CALLS = 512;
    private static final int LONGEST_STEP = 165;
    private static final String SIGNS = "!#$%&()*+,-./:;<=>?@[\\]^_`{|}~'\"";
    private static final String[] KEYWORDS = {"\"a\"", "\"b\"", "\"ab\"", "\"az\"", "\"do\"", "\"cabzz\""};
    private static final String[] LAYOUT = {"empty", "blank", "line", "deeper line", "line deeper", "back", "back deeper line"};
    private static final String[] PIECES = {
        " ", "\n", "a", "do", "cabzz", "zz", "0", "7", "9999", "12345", "abcdefg", "@", "+", "(", "A", "", "; B=", "|", "~", "*",
    };

    private final Random random;
    private final TwoWayGrammar g = new TwoWayGrammar();
    private final Twin twin = new Twin();
    private int calls;
    private int fresh;
    private int rules;

    private TwinTest(Random random) {
        this.random = random;
    }

    public static void main(String[] args) throws ReflectiveOperationException {
        int objects = args.length > 0 ? Integer.parseInt(args[0]) : OBJECTS;
        Random random = new Random(args.length > 1 ? Long.parseLong(args[1]) : 20261117);
        int good = 0;
        int trees = 0;
        for (int n = 0; n < objects; n++) {
            TwinTest test = new TwinTest(random);
            good += test.run() ? 1 : 0;
            trees += test.twin.count(5) > 1 ? 1 : 0;
        }
        System.out.println(good + " descriptions are good, " + trees + " runs end with a tree");
        Desk.due("many descriptions are good, not all", good > objects / 4 && good < objects, true);
        Desk.due("many runs end with a tree", trees > objects / 4, true);
        Desk.end();
    }

    private boolean run() throws ReflectiveOperationException {
        describe();
        boolean good = call("compile").equals("0");
        for (int n = 0; n < 12; n++) {
            call("rule", random.nextInt(rules + 1) - random.nextInt(2), random.nextInt(4));
        }
        int steps = good ? CALLS : 8;
        for (int n = 0; n < steps && calls < CALLS - LONGEST_STEP; n++) {
            step();
        }
        while (good && calls < CALLS) {
            look();
        }
        return good;
    }

    private String call(String name, Object... arguments) throws ReflectiveOperationException {
        Class<?>[] types = new Class<?>[arguments.length];
        for (int k = 0; k < types.length; k++) {
            types[k] = arguments[k] instanceof Long ? long.class : arguments[k] instanceof Character ? char.class : int.class;
        }
        calls++;
        String answer = answer(TwoWayGrammar.class.getMethod(name, types), g, arguments);
        String due = answer(Twin.class.getDeclaredMethod(name, types), twin, arguments);
        if (!answer.equals(due)) {
            Desk.due(name + Arrays.toString(arguments) + ", call " + calls, answer, due);
        }
        return due;
    }

    private static String answer(Method method, Object object, Object... arguments) throws IllegalAccessException {
        try {
            return String.valueOf(method.invoke(object, arguments));
        } catch (InvocationTargetException thrown) {
            return "throws." + thrown.getCause().getClass().getSimpleName();
        }
    }

    private void write(int text, String characters) throws ReflectiveOperationException {
        call("clear", text);
        for (char c : characters.toCharArray()) {
            call("type", text, c);
        }
    }

    private void describe() throws ReflectiveOperationException {
        rules = 3;
        if (random.nextInt(6) == 0) {
            call("sample", random.nextInt(3));
            return;
        }
        String text = description();
        for (int n = 0; n < 20 && text.length() > 240; n++) {
            text = description();
        }
        write(0, random.nextInt(5) == 0 ? changed(text) : text.substring(0, Math.min(text.length(), 240)));
    }

    private String description() {
        rules = 1 + random.nextInt(4);
        fresh = random.nextInt(SIGNS.length());
        StringBuilder text = new StringBuilder();
        for (int r = 0; r < rules; r++) {
            text.append((char) ('A' + r)).append('=').append(form(r, 0)).append(random.nextBoolean() ? ";" : " ;\n");
        }
        return text.toString();
    }

    private String form(int rule, int open) {
        int alternatives = random.nextInt(60) == 0 ? 7 : 1 + random.nextInt(3);
        StringBuilder all = new StringBuilder(alternative(rule, open, random.nextInt(3) > 0));
        for (int k = 1; k < alternatives; k++) {
            all.append('|').append(alternative(rule, open, k < alternatives - 1 || random.nextInt(4) > 0));
        }
        return all.toString();
    }

    private String alternative(int rule, int open, boolean marked) {
        StringBuilder all = new StringBuilder(marked ? literal() : "");
        int items = random.nextInt(3) + (marked ? 0 : 1);
        for (int n = 0; n < items; n++) {
            all.append(' ').append(unit(rule, open)).append(random.nextInt(5) == 0 ? "~" + unit(rule, open) : "");
        }
        return all.toString();
    }

    private String unit(int rule, int open) {
        String part = part(rule, open);
        boolean mayBeVoid = List.of(LAYOUT).contains(part);
        int repeat = random.nextInt(mayBeVoid ? 60 : 8);
        return part + (repeat == 0 ? "*" : repeat == 1 ? "?" : "");
    }

    /** Most uses are of rules that come later, so that heights are finite. */
    private String part(int rule, int open) {
        switch (random.nextInt(open < 4 ? 12 : 9)) {
            case 0:
                return random.nextBoolean() ? "number" : "number+" + random.nextInt(10);
            case 1, 2:
                return "name";
            case 3, 4:
                return LAYOUT[random.nextInt(LAYOUT.length)];
            case 5, 6:
                boolean later = rule < rules - 1 && random.nextInt(4) > 0;
                return String.valueOf((char) ('A' + (later ? rule + 1 : random.nextInt(rules + random.nextInt(20) / 19))));
            case 7, 8:
                return literal();
            default:
                return "(" + form(rule, open + 1) + ")";
        }
    }

    private String literal() {
        if (random.nextInt(8) == 0) {
            return KEYWORDS[random.nextInt(KEYWORDS.length)];
        }
        fresh += random.nextInt(5) == 0 ? 0 : 1;
        return "'" + SIGNS.charAt(fresh % SIGNS.length());
    }

    private String changed(String text) {
        StringBuilder all = new StringBuilder(text);
        for (int n = random.nextInt(3); n >= 0; n--) {
            int place = random.nextInt(all.length() + 1);
            int gone = Math.min(all.length() - place, random.nextInt(3));
            all.replace(place, place + gone, random.nextInt(3) == 0 ? "" : PIECES[random.nextInt(PIECES.length)]);
        }
        return all.substring(0, Math.min(all.length(), 240));
    }

    private void step() throws ReflectiveOperationException {
        switch (random.nextInt(16)) {
            case 0, 1, 2:
                call("grow", random.nextLong(), random.nextInt(random.nextBoolean() ? 21 : 5));
                break;
            case 3, 4:
                call("print");
                call("carry");
                call("parse");
                break;
            case 5, 6, 7:
                readChanged();
                break;
            case 8:
                call("keep");
                break;
            case 9:
                call("compare");
                break;
            case 10:
                call("grow", (long) random.nextInt(3), random.nextInt(2));
                break;
            case 11:
                call("set", random.nextInt(12), (long) random.nextInt(12000));
                break;
            default:
                look();
                break;
        }
    }

    /** Most inputs are near the text of a tree, so that faults lie deep in them, or have a piece of it again and again. */
    private void readChanged() throws ReflectiveOperationException {
        StringBuilder text = new StringBuilder();
        for (int k = 0; k < twin.count(2) && k < 50; k++) {
            text.append(twin.output(k));
        }
        int from = random.nextInt(text.length() + 1);
        int to = from + random.nextInt(Math.min(8, text.length() - from + 1));
        String piece = text.substring(from, to);
        for (int n = random.nextInt(random.nextBoolean() ? 2 : 40); n > 0 && text.length() < 140; n--) {
            text.insert(from, piece);
        }
        write(1, random.nextInt(3) == 0 ? text.toString() : changed(text.toString()));
        call("parse");
    }

    private void look() throws ReflectiveOperationException {
        int nodes = Math.max(1, twin.count(5));
        int characters = Math.max(1, twin.count(2));
        switch (random.nextInt(8)) {
            case 0:
                call("count", random.nextInt(9) - 1);
                break;
            case 1, 2:
                call("output", random.nextInt(characters + 1));
                break;
            default:
                call("node", random.nextInt(nodes + 1), random.nextInt(4));
                break;
        }
    }
}
