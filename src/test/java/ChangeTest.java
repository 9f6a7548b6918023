/** Promises 10, 14 and 15: set, keep, compare. */
public final class ChangeTest {
    private static final String STATE = "throws.IllegalStateException";
    private static final String ELEMENT = "throws.NoSuchElementException";

    public static void main(String[] args) {
        numbers();
        names();
        others();
        keeping();
        comparing();
        Desk.end();
    }

    private static void numbers() {
        Desk desk = Desk.of("A=number+7;");
        desk.parse("1");
        for (long v : new long[] {0, 1, 44, 9999}) {
            Desk.due("set a number " + v, desk.g.set(1, v), true);
            Desk.due("its value", desk.g.node(1, 1), v);
        }
        for (long v : new long[] {-1, 10000, 1L << 32, (1L << 32) + 5, Long.MIN_VALUE, Long.MAX_VALUE}) {
            Desk.due("set a number " + v, desk.g.set(1, v), false);
            Desk.due("its value stays", desk.g.node(1, 1), 9999);
        }
    }

    private static void names() {
        Desk desk = Desk.of("A=name(\"do\"|\"zzzzz\"|'+)?;");
        desk.parse("x");
        String[] fine = {"a", "z", "aa", "zzzzzz", "abcdef", "d", "dob", "od", "zzzz", "a"};
        for (String name : fine) {
            Desk.due("set a name " + name, desk.g.set(1, Desk.letters(name)), true);
            Desk.due("its value", desk.g.node(1, 1), Desk.letters(name));
        }
        long[] wrong = {
            0, 27, 31, 32, -1, 27 * 32 + 1, 1024 + 1, 1L << 30, (1L << 30) + Desk.letters("abcdef"),
            (1L << 32) + 1, (1L << 35) + Desk.letters("abcdef"), Long.MIN_VALUE, Long.MIN_VALUE + 1, Long.MAX_VALUE,
            Desk.letters("do"), Desk.letters("zzzzz"), Desk.letters("abcdefg"), -'+',
        };
        for (long v : wrong) {
            Desk.due("set a name " + v, desk.g.set(1, v), false);
            Desk.due("its value stays", desk.g.node(1, 1), 1);
        }
    }

    private static void others() {
        Desk desk = Desk.of("A=B('+|'-)'.*'!?;B=name;");
        Desk.due("no tree", Desk.ask(() -> desk.g.set(0, 1)), ELEMENT);
        Desk.due("a tree", desk.parse("x-..!"), 6);
        for (int k : new int[] {0, 1, 3, 4, 5}) {
            Desk.due("set node " + k, desk.g.set(k, 1), false);
            Desk.due("set node " + k, desk.g.set(k, 0), false);
        }
        Desk.due("nothing has changed", desk.nodes(), "1:0 1:1 3:24 4:1 5:2 6:1");
        for (int k : new int[] {-1, 6, 100, Integer.MIN_VALUE, Integer.MAX_VALUE}) {
            Desk.due("set node " + k, Desk.ask(() -> desk.g.set(k, 1)), ELEMENT);
            Desk.due("set node " + k + " wrongly", Desk.ask(() -> desk.g.set(k, -1)), ELEMENT);
        }
    }

    private static void keeping() {
        Desk desk = Desk.of("A=name;");
        Desk.due("keep without a tree", desk.g.keep(), false);
        Desk.due("nothing kept", desk.g.count(6), 0);
        desk.parse("b");
        Desk.due("compare with nothing kept", Desk.ask(desk.g::compare), STATE);
        Desk.due("keep", desk.g.keep(), true);
        Desk.due("alike", desk.g.compare(), 0);
        desk.g.set(1, 3);
        Desk.due("what is kept does not change with the tree", desk.g.compare(), 1);
        Desk.due("keep in place of it", desk.g.keep(), true);
        Desk.due("alike again", desk.g.compare(), 0);
        desk.compile("A=name;");
        Desk.due("compare behind compile", Desk.ask(desk.g::compare), STATE);
        Desk.due("keep behind compile", desk.g.keep(), false);
        desk.parse("b");
        Desk.due("nothing is kept behind compile", Desk.ask(desk.g::compare), STATE);
    }

    private static void comparing() {
        String[] rising = {"1a", "1b", "1z", "1aa", "1+", "1+!", "1+.", "1+..", "2a", "10a", "9999+"};
        for (int kept = 0; kept < rising.length; kept++) {
            Desk desk = Desk.of("A=number(name|'+)'.*'!?;");
            desk.parse(rising[kept]);
            desk.g.keep();
            for (int k = 0; k < rising.length; k++) {
                desk.parse(rising[k]);
                Desk.due(rising[k] + " against " + rising[kept], desk.g.compare(), Integer.compare(k, kept));
            }
        }
        Desk fault = Desk.of("A=name*;");
        fault.parse("a");
        fault.g.keep();
        fault.parse("a b 5");
        Desk.due("a fault leaves the tree", fault.g.compare(), 0);
    }
}
