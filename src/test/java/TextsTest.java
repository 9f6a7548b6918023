/** Promises 1 to 4 and 16: a new object, type, clear, sample, count. */
public final class TextsTest {
    private static final String OUT = "throws.IndexOutOfBoundsException";
    private static final String STATE = "throws.IllegalStateException";
    private static final String ARGUMENT = "throws.IllegalArgumentException";
    private static final String ELEMENT = "throws.NoSuchElementException";

    public static void main(String[] args) {
        newObject();
        typing();
        rooms();
        clearing();
        samples();
        counting();
        Desk.end();
    }

    private static void newObject() {
        TwoWayGrammar g = new TwoWayGrammar();
        for (int what = 0; what <= 6; what++) {
            Desk.due("new: count " + what, g.count(what), 0);
        }
        Desk.due("new: rule", Desk.ask(() -> g.rule(0, 0)), STATE);
        Desk.due("new: rule, all wrong", Desk.ask(() -> g.rule(-1, 9)), STATE);
        Desk.due("new: parse", Desk.ask(g::parse), STATE);
        Desk.due("new: grow", Desk.ask(() -> g.grow(1, 0)), STATE);
        Desk.due("new: node", Desk.ask(() -> g.node(0, 0)), ELEMENT);
        Desk.due("new: set", Desk.ask(() -> g.set(0, 0)), ELEMENT);
        Desk.due("new: print", Desk.ask(g::print), STATE);
        Desk.due("new: output", Desk.ask(() -> g.output(0)), OUT);
        Desk.due("new: keep", g.keep(), false);
        Desk.due("new: compare", Desk.ask(g::compare), STATE);
        Desk.due("new: carry", g.carry(), 0);
        Desk.due("new: clear 0", g.clear(0), 0);
        Desk.due("new: clear 1", g.clear(1), 0);
        Desk.due("new: compile", g.compile(), 1);
    }

    private static void typing() {
        TwoWayGrammar g = new TwoWayGrammar();
        int[] refused = {0, 9, 11, 13, 31, 127, 128, 255, 256 + 10, 256 + 65, 65535};
        int[] taken = {10, 32, 33, 65, 126};
        for (int text = 0; text < 2; text++) {
            for (int c : refused) {
                Desk.due("type " + c, g.type(text, (char) c), false);
            }
            Desk.due("after what was refused", g.count(text), 0);
            for (int c : taken) {
                Desk.due("type " + c, g.type(text, (char) c), true);
            }
            Desk.due("after what was taken", g.count(text), taken.length);
        }
        for (int text : new int[] {-1, 2, Integer.MIN_VALUE, Integer.MAX_VALUE}) {
            Desk.due("type in text " + text, Desk.ask(() -> g.type(text, 'a')), OUT);
            Desk.due("type what is wrong in text " + text, Desk.ask(() -> g.type(text, (char) 0)), OUT);
            Desk.due("clear of text " + text, Desk.ask(() -> g.clear(text)), OUT);
        }
    }

    private static void rooms() {
        int[] room = {240, 160};
        TwoWayGrammar g = new TwoWayGrammar();
        for (int text = 0; text < 2; text++) {
            for (int k = 0; k < room[text]; k++) {
                Desk.due("type " + k, g.type(text, ' '), true);
            }
            Desk.due("type in a full text", g.type(text, ' '), false);
            Desk.due("a full text", g.count(text), room[text]);
        }
        Desk.due("compile of a full text", g.compile(), 1 + 16 * 240);
        Desk.due("clear of a full text", g.clear(0), 240);
        Desk.due("type in it then", g.type(0, ' '), true);
    }

    private static void clearing() {
        Desk desk = Desk.of("A=name;");
        desk.write(1, "abc");
        Desk.due("clear 0", desk.g.clear(0), 7);
        Desk.due("clear 0 again", desk.g.clear(0), 0);
        Desk.due("the input then", desk.g.count(1), 3);
        Desk.due("the description in use stays", Desk.ask(desk.g::parse), 2);
        Desk.due("clear 1", desk.g.clear(1), 3);
        Desk.due("no input", Desk.ask(desk.g::parse), -1);
        Desk.due("the tree stays", desk.g.count(5), 2);
    }

    private static void samples() {
        String[] texts = {
            "E = T ( ( '+ | '- ) T )* ;\nT = F ( ( '* | '/ ) F )* ;\nF = number | name | '( E ') ;\n",
            "P = '{ deeper ( line S )* back line '} ;\nS = \"let\" name blank '= blank V '; | \"do\" P"
                + " | \"put\" V '; ;\nV = name | number + 1 | '- V ;\n",
            "D = '[ ( R ( ', blank R )* )? '] ;\nR = name ': ( number ~ U ) ;\nU = '# name? | '$ | empty ;\n",
        };
        for (int k = 0; k < 3; k++) {
            Desk desk = new Desk();
            desk.write(0, "what was before");
            Desk.due("sample " + k, desk.g.sample(k), texts[k].length());
            Desk.due("characters", desk.g.count(0), texts[k].length());
            Desk.due("compile of a sample", desk.g.compile(), 0);
            sameRules(desk, Desk.of(texts[k]));
            desk.g.type(0, texts[k].charAt(0));
            Desk.due("a name again behind a sample", desk.g.compile(), 2 + 16 * texts[k].length());
        }
        Desk desk = Desk.of("A=name;");
        for (int k : new int[] {-1, 3, Integer.MIN_VALUE, Integer.MAX_VALUE}) {
            Desk.due("sample " + k, Desk.ask(() -> desk.g.sample(k)), ARGUMENT);
        }
        Desk.due("no such sample changes nothing", desk.g.count(0), 7);
        desk.g.sample(0);
        Desk.due("a sample is not in use before compile", desk.g.count(3), 1);
        Desk.due("the one in use parses", desk.parse("ab"), 2);
    }

    private static void sameRules(Desk one, Desk other) {
        Desk.due("rules", one.g.count(3), other.g.count(3));
        Desk.due("literals", one.g.count(4), other.g.count(4));
        for (int r = 0; r < 3; r++) {
            for (int what = 0; what < 4; what++) {
                Desk.due("rule " + r + " " + what, one.g.rule(r, what), other.g.rule(r, what));
            }
        }
    }

    private static void counting() {
        Desk desk = Desk.of("A=B('+ B)*;B=name|\"let\"'.'+;");
        Desk.due("rules", desk.g.count(3), 2);
        Desk.due("literals, the same ones counted once", desk.g.count(4), 3);
        desk.parse("a + b");
        Desk.due("nodes", desk.g.count(5), 8);
        Desk.due("kept before", desk.g.count(6), 0);
        desk.g.keep();
        desk.parse("a");
        Desk.due("nodes then", desk.g.count(5), 5);
        Desk.due("kept", desk.g.count(6), 8);
        desk.g.print();
        Desk.due("output", desk.g.count(2), 1);
        Desk.due("input", desk.g.count(1), 1);
        for (int what : new int[] {-1, 7, 8, Integer.MIN_VALUE, Integer.MAX_VALUE}) {
            Desk.due("count " + what, desk.g.count(what), -1);
        }
        desk.compile("A=A;");
        Desk.due("rules with fault 5", desk.g.count(3), 1);
        desk.compile("A='+ B;");
        Desk.due("rules with fault 4", desk.g.count(3), 0);
        Desk.due("literals with fault 4", desk.g.count(4), 0);
        Desk.due("output stays with a new description", desk.g.count(2), 1);
    }
}
