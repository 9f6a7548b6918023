import java.util.concurrent.Callable;

/**
 * An object under test, with texts typed and trees told at one stroke, and the count of wrong answers.
 * A test takes a new one before it has made 512 calls: what later calls answer is free.
 */
final class Desk {
    static final String STATE = "throws.IllegalStateException";
    static final String OUT = "throws.IndexOutOfBoundsException";
    static final String ARGUMENT = "throws.IllegalArgumentException";
    static final String ELEMENT = "throws.NoSuchElementException";
    static final String LIMIT = "throws.UnsupportedOperationException";

    private static int wrong = 0;
    private static String sentence = "";

    final TwoWayGrammar g = new TwoWayGrammar();

    /** The words of the document that the answers from here on are due by. */
    static void sentence(String words) {
        sentence = words.isEmpty() ? "" : words + ": ";
    }

    static void due(String what, Object got, Object want) {
        if (!String.valueOf(got).equals(String.valueOf(want))) {
            wrong++;
            System.out.println(sentence + what + " answered " + got + ", due is " + want);
        }
    }

    static void end() {
        System.out.println(wrong == 0 ? "all answers are as due" : wrong + " answers are not as due");
        if (wrong != 0) {
            System.exit(1);
        }
    }

    /** The answer of a call as a text, or the name of what it throws. */
    static String ask(Callable<?> call) {
        try {
            return String.valueOf(call.call());
        } catch (Exception e) {
            return "throws." + e.getClass().getSimpleName();
        }
    }

    void write(int text, String characters) {
        g.clear(text);
        for (char c : characters.toCharArray()) {
            g.type(text, c);
        }
    }

    int compile(String description) {
        write(0, description);
        return g.compile();
    }

    /** What compile() finds in a description: good, or the fault's number @ its place. */
    static String found(String description) {
        int answer = new Desk().compile(description);
        return answer == 0 ? "good" : answer % 16 + "@" + answer / 16;
    }

    static void dueFound(String description, String want) {
        due("compile of " + description, found(description), want);
    }

    static Desk of(String description) {
        Desk desk = new Desk();
        due("compile of " + description, desk.compile(description), 0);
        return desk;
    }

    static Desk ofSample(int k) {
        Desk desk = new Desk();
        desk.g.sample(k);
        due("compile of sample " + k, desk.g.compile(), 0);
        return desk;
    }

    String parse(String input) {
        write(1, input);
        return ask(g::parse);
    }

    /** Parses an input by a description: the nodes, or what parse() answers or throws instead. */
    static String read(String description, String input) {
        Desk desk = of(description);
        String answer = desk.parse(input);
        return answer.startsWith("-") || answer.startsWith("throws") ? answer : desk.nodes();
    }

    static void dueRead(String description, String input, String want) {
        due(input + " by " + description, read(description, input), want);
    }

    /** Parses an input by a description and prints the tree: the output, or what is answered or thrown instead. */
    static String written(String description, String input) {
        Desk desk = of(description);
        String answer = desk.parse(input);
        return answer.startsWith("-") || answer.startsWith("throws") ? answer : desk.print();
    }

    static void dueWritten(String description, String input, String want) {
        due(input + " printed by " + description, written(description, input), want);
    }

    /** A set of kinds. */
    static long kinds(int... all) {
        long bits = 0;
        for (int kind : all) {
            bits |= 1L << kind;
        }
        return bits;
    }

    /** Prints the tree: the output, or the name of what was thrown. */
    String print() {
        String answer = ask(g::print);
        if (answer.startsWith("throws")) {
            return answer;
        }
        due("characters printed", answer, g.count(2));
        return output();
    }

    String output() {
        StringBuilder all = new StringBuilder();
        int characters = g.count(2);
        for (int k = 0; k < characters; k++) {
            all.append(g.output(k));
        }
        return all.toString();
    }

    /** Each node's kind:value, in their order. */
    String nodes() {
        StringBuilder all = new StringBuilder();
        int nodes = g.count(5);
        for (int k = 0; k < nodes; k++) {
            all.append(k == 0 ? "" : " ").append(g.node(k, 0)).append(':').append(g.node(k, 1));
        }
        return all.toString();
    }

    /** What all nodes have of one sort. */
    String all(int what) {
        StringBuilder all = new StringBuilder();
        int nodes = g.count(5);
        for (int k = 0; k < nodes; k++) {
            all.append(k == 0 ? "" : " ").append(g.node(k, what));
        }
        return all.toString();
    }

    static long letters(String name) {
        long code = 0;
        for (int k = name.length() - 1; k >= 0; k--) {
            code = code * 32 + name.charAt(k) - 'a' + 1;
        }
        return code;
    }
}
