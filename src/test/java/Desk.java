import java.util.concurrent.Callable;

/**
 * An object under test, with texts typed and trees told at one stroke, and the count of wrong answers.
 * A test takes a new one before it has made 512 calls: what later calls answer is free.
 */
final class Desk {
    private static int wrong = 0;

    final TwoWayGrammar g = new TwoWayGrammar();

    static void due(String what, Object got, Object want) {
        if (!String.valueOf(got).equals(String.valueOf(want))) {
            wrong++;
            System.out.println(what + " answered " + got + ", due is " + want);
        }
    }

    static void end() {
        System.out.println(wrong == 0 ? "all answers are as due" : wrong + " answers are not as due");
        if (wrong != 0) {
            System.exit(1);
        }
    }

    /** The answer of a call as a text, or the name of what it throws. */
    static String ask(Callable<?> call) {
        try {
            return String.valueOf(call.call());
        } catch (Exception e) {
            return "throws." + e.getClass().getSimpleName();
        }
    }

    void write(int text, String characters) {
        g.clear(text);
        for (char c : characters.toCharArray()) {
            g.type(text, c);
        }
    }

    int compile(String description) {
        write(0, description);
        return g.compile();
    }

    static Desk of(String description) {
        Desk desk = new Desk();
        due("compile of " + description, desk.compile(description), 0);
        return desk;
    }

    static Desk ofSample(int k) {
        Desk desk = new Desk();
        desk.g.sample(k);
        due("compile of sample " + k, desk.g.compile(), 0);
        return desk;
    }

    String parse(String input) {
        write(1, input);
        return ask(g::parse);
    }

    /** Prints the tree: the output, or the name of what was thrown. */
    String print() {
        String answer = ask(g::print);
        if (answer.startsWith("throws")) {
            return answer;
        }
        due("characters printed", answer, g.count(2));
        return output();
    }

    String output() {
        StringBuilder all = new StringBuilder();
        int characters = g.count(2);
        for (int k = 0; k < characters; k++) {
            all.append(g.output(k));
        }
        return all.toString();
    }

    /** Each node's kind:value, in their order. */
    String nodes() {
        StringBuilder all = new StringBuilder();
        int nodes = g.count(5);
        for (int k = 0; k < nodes; k++) {
            all.append(k == 0 ? "" : " ").append(g.node(k, 0)).append(':').append(g.node(k, 1));
        }
        return all.toString();
    }

    /** What all nodes have of one sort. */
    String all(int what) {
        StringBuilder all = new StringBuilder();
        int nodes = g.count(5);
        for (int k = 0; k < nodes; k++) {
            all.append(k == 0 ? "" : " ").append(g.node(k, what));
        }
        return all.toString();
    }

    static long letters(String name) {
        long code = 0;
        for (int k = name.length() - 1; k >= 0; k--) {
            code = code * 32 + name.charAt(k) - 'a' + 1;
        }
        return code;
    }
}
