/** Promises 10, 14 and 15, each sentence with an edge in it by a method of its own. */
public final class ChangeEdgesTest {
    public static void main(String[] args) throws ReflectiveOperationException {
        Sentences.run(ChangeEdgesTest.class);
    }

    private static Desk parsed(String description, String input) {
        Desk desk = Desk.of(description);
        desk.parse(input);
        return desk;
    }

    @Says("Promise 10: A number's or name's node gets another value: true")
    static void setAnswers() {
        Desk desk = parsed("A=number+7 name number;", "5 abc 6");
        Desk.due("set a number", desk.g.set(1, 77), true);
        Desk.due("set a name", desk.g.set(2, Desk.letters("xyz")), true);
        Desk.due("their values, and no other's", desk.nodes(), "1:0 2:77 3:" + Desk.letters("xyz") + " 2:6");
        Desk.due("set the same value", desk.g.set(1, 77), true);
        Desk.due("it is printed", desk.print(), "70 xyz 6");
        Desk.due("kinds and places stay", desk.all(0) + " " + desk.all(2) + " " + desk.all(3), "1 2 3 2 -1 0 0 0 3 0 0 0");
    }

    @Says("Promise 10: False when it is neither")
    static void setOfOthers() {
        Desk desk = parsed("A=B('+|'-)'.*'!?;B=name;", "x-..!");
        for (int k : new int[] {0, 1, 3, 4, 5}) {
            for (long v : new long[] {0, 1, 2, 9999, -1, Long.MIN_VALUE, Long.MAX_VALUE}) {
                Desk.due("set node " + k + " to " + v, desk.g.set(k, v), false);
            }
        }
        Desk.due("nothing has changed", desk.nodes(), "1:0 1:1 3:24 4:1 5:2 6:1");
    }

    @Says("Promise 10: or v is not 0 .. 9999")
    static void setOfNumbers() {
        Desk desk = parsed("A=number;", "5");
        for (long v : new long[] {0, 1, 9998, 9999, 1234}) {
            Desk.due("set " + v, desk.g.set(1, v), true);
            Desk.due("its value", desk.g.node(1, 1), v);
        }
        long[] wrong = {
            -1, -2, 10000, 10001, -9999, 65536, 1L << 31, 1L << 32, (1L << 32) + 5, -(1L << 32) + 5, 1L << 63,
            Integer.MIN_VALUE, Integer.MAX_VALUE, Long.MAX_VALUE, Desk.letters("zzz"),
        };
        for (long v : wrong) {
            Desk.due("set " + v, desk.g.set(1, v), false);
            Desk.due("its value stays", desk.g.node(1, 1), 1234);
        }
    }

    @Says("Promise 10: or no letters of a name (1 to 6, no keyword)")
    static void setOfNames() {
        Desk desk = parsed("A=name(\"a\"|\"do\"|\"zzzzz\"|'+)?;", "x");
        for (String name : new String[] {"b", "z", "aa", "zz", "dp", "doo", "zzzz", "zzzzzz", "aaaaaa", "abcdef"}) {
            Desk.due("set " + name, desk.g.set(1, Desk.letters(name)), true);
            Desk.due("its value", desk.g.node(1, 1), Desk.letters(name));
        }
        for (String keyword : new String[] {"a", "do", "zzzzz"}) {
            Desk.due("set the keyword " + keyword, desk.g.set(1, Desk.letters(keyword)), false);
        }
        long[] wrong = {
            0, 27, 28, 29, 30, 31, 32, 64, 32 * 27 + 2, 32 * 31 + 2, 1024 + 2, 32 * 2, 1L << 25, 27L << 25,
            (27L << 25) + Desk.letters("bcdef"), 1L << 30, (1L << 30) + Desk.letters("abcdef"), Desk.letters("bcdefgh"),
            1L << 32, (1L << 32) + 2, (1L << 35) + Desk.letters("abcdef"), (1L << 60) + 2, -1, -2, -'+', -'-',
            Long.MIN_VALUE, Long.MIN_VALUE + 2, Long.MAX_VALUE, Integer.MIN_VALUE, Integer.MAX_VALUE,
        };
        for (long v : wrong) {
            Desk.due("set " + v, desk.g.set(1, v), false);
        }
        Desk.due("its value stays", desk.g.node(1, 1), Desk.letters("abcdef"));
    }

    @Says("Promise 10: NoSuchElementException when there is no such node")
    static void setOfNone() {
        Desk desk = Desk.of("A=number*;");
        Desk.due("set without a tree", Desk.ask(() -> desk.g.set(0, 1)), Desk.ELEMENT);
        desk.parse("1 2 3");
        desk.parse("1");
        for (int k : new int[] {-1, 3, 4, 99, 100, Integer.MIN_VALUE, Integer.MAX_VALUE}) {
            for (long v : new long[] {0, 1, -1, Long.MAX_VALUE}) {
                Desk.due("set node " + k + " to " + v, Desk.ask(() -> desk.g.set(k, v)), Desk.ELEMENT);
            }
        }
        Desk.due("the last node", Desk.ask(() -> desk.g.set(2, 7)), true);
        Desk.due("the tree", desk.nodes(), "1:0 5:1 2:7");
    }

    @Says("Promise 14: The tree is kept, as it is now, in place of one that was")
    static void keepAnswers() {
        Desk desk = parsed("A=name*;", "a b");
        Desk.due("keep", desk.g.keep(), true);
        Desk.due("nodes kept", desk.g.count(6), 4);
        Desk.due("the tree stays, too", desk.nodes(), "1:0 5:2 3:1 3:2");
        desk.g.set(3, 5);
        Desk.due("set changes the tree alone", desk.g.compare(), 1);
        Desk.due("keep in place of it", desk.g.keep(), true);
        Desk.due("alike", desk.g.compare(), 0);
        desk.parse("");
        Desk.due("nodes kept, as before", desk.g.count(6), 4);
        Desk.due("keep a smaller one", desk.g.keep(), true);
        Desk.due("nodes kept", desk.g.count(6), 2);
        desk.parse("1");
        Desk.due("a fault changes nothing kept", desk.g.compare(), 0);
    }

    @Says("Promise 14: false, changing nothing, without a tree")
    static void keepOfNone() {
        TwoWayGrammar g = new TwoWayGrammar();
        Desk.due("keep of a new object", g.keep(), false);
        Desk.due("nothing kept", g.count(6), 0);
        Desk.due("compare", Desk.ask(g::compare), Desk.STATE);
        Desk desk = Desk.of("A=name;");
        Desk.due("keep before a tree", desk.g.keep(), false);
        Desk.due("nothing kept", desk.g.count(6), 0);
        desk.parse("1");
        Desk.due("keep behind a fault", desk.g.keep(), false);
        desk.parse("a");
        Desk.due("compare with nothing kept", Desk.ask(desk.g::compare), Desk.STATE);
        desk.g.keep();
        desk.g.compile();
        Desk.due("keep behind compile", desk.g.keep(), false);
        Desk.due("nothing kept", desk.g.count(6), 0);
    }

    @Says("Promise 15: 0 when they are alike")
    static void alike() {
        Desk one = parsed("A='!;", "!");
        one.g.keep();
        Desk.due("one node", one.g.compare(), 0);
        Desk full = Desk.of("A=(name|number)*;");
        full.parse("a1".repeat(24) + "a");
        full.g.keep();
        Desk.due("the same tree", full.g.compare(), 0);
        full.parse(" a 1".repeat(24) + " a");
        Desk.due("a tree of another text", full.g.compare(), 0);
        full.parse("a1".repeat(24) + "b");
        Desk.due("the last of 100 nodes differs", full.g.compare(), 1);
        full.g.set(99, 1);
        Desk.due("and is set to be alike", full.g.compare(), 0);
    }

    @Says("Promise 15: else -1 or 1, as the first node in which they differ comes first by its kind, then by its value")
    static void order() {
        String[] rising = {
            "0 a", "0 b", "0 z", "0 aa", "0 zz", "0 zzzzzz", "0 +", "0 +!", "0 +.", "0 +..", "1 a", "9 a", "10 a", "9999 +",
        };
        for (int kept = 0; kept < rising.length; kept++) {
            Desk desk = parsed("A=number(name|'+)'.*'!?;", rising[kept]);
            desk.g.keep();
            for (int k = 0; k < rising.length; k++) {
                desk.parse(rising[k]);
                Desk.due(rising[k] + " against " + rising[kept], desk.g.compare(), Integer.compare(k, kept));
            }
        }
        Desk later = parsed("A=number number;", "5 1");
        later.g.keep();
        later.parse("4 9");
        Desk.due("the first that differs counts", later.g.compare(), -1);
        later.parse("6 0");
        Desk.due("whatever comes behind", later.g.compare(), 1);
    }

    /** By one description a value differs before a kind can, or before one tree ends: the many's here. */
    @Says("Promise 15: a tree whose nodes are all there in the other one, which has more, comes first")
    static void shorter() {
        Desk desk = parsed("A=name*;", "a b");
        desk.g.keep();
        desk.parse("a");
        Desk.due("fewer nodes", desk.g.compare(), -1);
        desk.parse("");
        Desk.due("none", desk.g.compare(), -1);
        desk.parse("a b c");
        Desk.due("more nodes", desk.g.compare(), 1);
        Desk maybe = parsed("A=name?;", "");
        maybe.g.keep();
        maybe.parse("a");
        Desk.due("a maybe that is there", maybe.g.compare(), 1);
    }

    @Says("Promise 15: IllegalStateException without one of both")
    static void compareOfNone() {
        Desk desk = Desk.of("A=name;");
        Desk.due("without both", Desk.ask(desk.g::compare), Desk.STATE);
        desk.parse("a");
        Desk.due("with a tree alone", Desk.ask(desk.g::compare), Desk.STATE);
        desk.g.keep();
        Desk.due("with both", Desk.ask(desk.g::compare), 0);
        desk.g.compile();
        Desk.due("without both again", Desk.ask(desk.g::compare), Desk.STATE);
        Desk.due("a grown tree", Desk.ask(() -> desk.g.grow(1, 1)), 2);
        Desk.due("with a grown tree alone", Desk.ask(desk.g::compare), Desk.STATE);
    }
}
