/** The texts and promises 1 to 4, 13 and 16, each sentence with an edge in it by a method of its own. */
public final class TextsEdgesTest {
    private static final int[] ROOM = {240, 160};
    private static final int[] NO_TEXT = {-1, 2, 3, 240, Integer.MIN_VALUE, Integer.MAX_VALUE};
    private static final String[] SAMPLES = {
        "E = T ( ( '+ | '- ) T )* ;\nT = F ( ( '* | '/ ) F )* ;\nF = number | name | '( E ') ;\n",
        "P = '{ deeper ( line S )* back line '} ;\nS = \"let\" name blank '= blank V '; | \"do\" P"
            + " | \"put\" V '; ;\nV = name | number + 1 | '- V ;\n",
        "D = '[ ( R ( ', blank R )* )? '] ;\nR = name ': ( number ~ U ) ;\nU = '# name? | '$ | empty ;\n",
    };

    public static void main(String[] args) throws ReflectiveOperationException {
        Sentences.run(TextsEdgesTest.class);
    }

    @Says("An object is used for at most 512 calls after it has been made")
    static void lastCall() {
        TwoWayGrammar g = new TwoWayGrammar();
        g.sample(0);
        g.compile();
        g.type(1, '7');
        for (int call = 4; call <= 511; call++) {
            g.grow(call, 3);
        }
        Desk.due("the 512th call", g.parse(), 7);
    }

    @Says("0 the DESCRIPTION, at most 240 characters")
    static void roomOfDescription() {
        Desk desk = new Desk();
        desk.write(0, " ".repeat(232) + "A=name;");
        Desk.due("239 characters", desk.g.count(0), 239);
        Desk.due("a 240th", desk.g.type(0, '\n'), true);
        Desk.due("a 241st", desk.g.type(0, ';'), false);
        Desk.due("240 characters", desk.g.count(0), 240);
        Desk.due("none is lost and none came behind", desk.g.compile(), 0);
        Desk.dueFound(" ".repeat(233) + "A=name;", "good");
        Desk.dueFound(" ".repeat(234) + "A=name", "1@240");
        Desk.dueFound(" ".repeat(233) + "A=name,", "1@239");
    }

    @Says("1 the INPUT, at most 160")
    static void roomOfInput() {
        Desk desk = Desk.of("A='.*'!?;");
        desk.write(1, ".".repeat(159));
        Desk.due("159 characters", desk.g.count(1), 159);
        Desk.due("a 160th", desk.g.type(1, '!'), true);
        Desk.due("a 161st", desk.g.type(1, '!'), false);
        Desk.due("160 characters", desk.g.count(1), 160);
        Desk.due("all are read", Desk.ask(desk.g::parse), 3);
        Desk.due("the last one, too", desk.nodes(), "1:0 5:159 6:1");
    }

    @Says("all are 32 .. 126 or 10")
    static void allCharacters() {
        for (int text = 0; text < 2; text++) {
            TwoWayGrammar g = new TwoWayGrammar();
            for (int c = 0; c < 65536; c++) {
                if (c % 100 == 0) {
                    g = new TwoWayGrammar();
                }
                boolean allowed = c >= 32 && c <= 126 || c == 10;
                int before = g.count(text);
                Desk.due("type " + text + " of " + c, g.type(text, (char) c), allowed);
                Desk.due("characters then", g.count(text), allowed ? before + 1 : before);
            }
        }
    }

    @Says("BLANKS are 32 and 10; they stand between tokens or not")
    static void blanksOrNone() {
        String spread = "A = ( name | number + 1 ) * ' ' + ( B ~ \"x\" ) ? ; B = '! ;";
        String dense = "A=(name|number+1)*'+(B~\"x\")?;B='!;";
        Desk.dueFound(dense, "good");
        Desk.dueFound(dense.replace("=", " = ").replace(";", "\n;\n"), "good");
        Desk.dueFound(spread.replace("' ' +", "'+"), "good");
        Desk.dueFound(spread.replace("' ' +", "'+").replace(' ', '\n'), "good");
        for (String input : new String[] {"a1b2+!x", "a 1 b 2 + ! x", "\na\n1\n\nb 2+ !\n x ", "  a1 b2 +!x"}) {
            Desk.dueRead(dense, input, "1:0 5:4 4:0 3:1 4:1 2:2 4:0 3:2 4:1 2:3 6:1 1:1");
        }
    }

    @Says("and end what is in front of them")
    static void blanksEnd() {
        Desk.dueFound("A=na me;", "1@2");
        Desk.dueFound("A=num\nber;", "1@2");
        Desk.dueFound("A=\"a b\";", "1@2");
        Desk.dueFound("A=\" ab\";", "1@2");
        Desk.dueFound("A=\"ab \";", "1@2");
        Desk.dueFound("A=\"ab\n\";", "1@2");
        Desk.dueFound("A=' ;", "1@2");
        Desk.dueFound("A='\n;", "1@2");
        Desk.dueRead("A=name*;", "ab cd", "1:0 5:2 3:65 3:131");
        Desk.dueRead("A=name*;", "ab\ncd", "1:0 5:2 3:65 3:131");
        Desk.dueRead("A=number*;", "12 34", "1:0 5:2 2:12 2:34");
        Desk.dueRead("A=number*;", "12\n34", "1:0 5:2 2:12 2:34");
        Desk.dueRead("A=(name|\"do\")*;", "d o", "1:0 5:2 4:0 3:4 4:0 3:15");
    }

    @Says("Promise 1: No texts")
    static void newTexts() {
        TwoWayGrammar g = new TwoWayGrammar();
        Desk.due("characters of the description", g.count(0), 0);
        Desk.due("characters of the input", g.count(1), 0);
        Desk.due("clear of the description", g.clear(0), 0);
        Desk.due("clear of the input", g.clear(1), 0);
        Desk.due("compile of nothing", g.compile(), 1);
    }

    @Says("Promise 1: no description that is read")
    static void newDescription() {
        TwoWayGrammar g = new TwoWayGrammar();
        Desk.due("rules", g.count(3), 0);
        Desk.due("literals", g.count(4), 0);
        Desk.due("rule", Desk.ask(() -> g.rule(0, 0)), Desk.STATE);
        Desk.due("parse", Desk.ask(g::parse), Desk.STATE);
        Desk.due("grow", Desk.ask(() -> g.grow(0, 0)), Desk.STATE);
        Desk.due("compile", g.compile(), 1);
    }

    @Says("Promise 1: no tree")
    static void newTree() {
        TwoWayGrammar g = new TwoWayGrammar();
        Desk.due("nodes", g.count(5), 0);
        Desk.due("node", Desk.ask(() -> g.node(0, 0)), Desk.ELEMENT);
        Desk.due("set", Desk.ask(() -> g.set(0, 0)), Desk.ELEMENT);
        Desk.due("print", Desk.ask(g::print), Desk.STATE);
        Desk.due("keep", g.keep(), false);
    }

    @Says("Promise 1: nothing kept")
    static void newKept() {
        TwoWayGrammar g = new TwoWayGrammar();
        Desk.due("nodes kept", g.count(6), 0);
        Desk.due("compare", Desk.ask(g::compare), Desk.STATE);
    }

    @Says("Promise 1: no output")
    static void newOutput() {
        TwoWayGrammar g = new TwoWayGrammar();
        Desk.due("characters", g.count(2), 0);
        Desk.due("output", Desk.ask(() -> g.output(0)), Desk.OUT);
        Desk.due("carry", g.carry(), 0);
    }

    @Says("Promise 1: A new object")
    static void newBesideAnother() {
        Desk one = Desk.of("A=name;");
        one.parse("x");
        one.g.keep();
        one.print();
        TwoWayGrammar other = new TwoWayGrammar();
        for (int what = 0; what <= 6; what++) {
            Desk.due("count " + what + " of another one", other.count(what), 0);
        }
        other.sample(0);
        other.compile();
        Desk.due("the first one has its own", Desk.ask(one.g::parse), 2);
    }

    @Says("Promise 2: Appends a character to a text: true")
    static void typeAppends() {
        TwoWayGrammar g = new TwoWayGrammar();
        for (char c : "A=name;".toCharArray()) {
            Desk.due("type 0 of " + c, g.type(0, c), true);
        }
        Desk.due("the input has none of it", g.count(1), 0);
        Desk.due("compile", g.compile(), 0);
        Desk.due("type 1", g.type(1, 'b'), true);
        Desk.due("type 1 behind it", g.type(1, 'a'), true);
        Desk.due("the description has none of it", g.count(0), 7);
        Desk.due("parse", Desk.ask(g::parse), 2);
        Desk.due("in their order", g.node(1, 1), Desk.letters("ba"));
    }

    @Says("Promise 2: refused (false) when it is full")
    static void typeInFull() {
        for (int text = 0; text < 2; text++) {
            Desk desk = new Desk();
            desk.write(text, " ".repeat(ROOM[text]));
            for (char c : new char[] {' ', '\n', '~', 'a', 0, 127}) {
                Desk.due("type of " + (int) c + " in the full text " + text, desk.g.type(text, c), false);
                Desk.due("characters then", desk.g.count(text), ROOM[text]);
            }
            Desk.due("the other one is not full", desk.g.type(1 - text, 'a'), true);
        }
    }

    @Says("Promise 2: or c is none of these")
    static void typeOfOthers() {
        Desk desk = Desk.of("A=name;");
        desk.write(1, "a");
        for (char c : new char[] {0, 9, 11, 13, 31, 127, 128, 160, 255, 256 + 'a', 0x4e00, 0xffff}) {
            for (int text = 0; text < 2; text++) {
                Desk.due("type " + text + " of " + (int) c, desk.g.type(text, c), false);
            }
        }
        Desk.due("the description as it was", desk.g.compile(), 0);
        Desk.due("the input as it was", Desk.ask(desk.g::parse), 2);
    }

    @Says("Promise 2: IndexOutOfBoundsException when there is no such text")
    static void typeInNone() {
        Desk desk = new Desk();
        for (int text : NO_TEXT) {
            Desk.due("type " + text, Desk.ask(() -> desk.g.type(text, 'a')), Desk.OUT);
            Desk.due("type " + text + " of what is refused", Desk.ask(() -> desk.g.type(text, (char) 127)), Desk.OUT);
        }
        Desk.due("the description", desk.g.count(0), 0);
        Desk.due("the input", desk.g.count(1), 0);
        desk.write(0, " ".repeat(240));
        desk.write(1, " ".repeat(160));
        Desk.due("type 2, with both full", Desk.ask(() -> desk.g.type(2, 'a')), Desk.OUT);
    }

    @Says("Promise 3: A text becomes empty: how many characters it had")
    static void clearAnswers() {
        for (int text = 0; text < 2; text++) {
            Desk desk = new Desk();
            for (int had : new int[] {0, 1, 2, ROOM[text] - 1, ROOM[text]}) {
                desk = new Desk();
                desk.write(text, "a".repeat(had));
                desk.g.type(1 - text, 'b');
                Desk.due("clear of " + had, desk.g.clear(text), had);
                Desk.due("characters then", desk.g.count(text), 0);
                Desk.due("clear again", desk.g.clear(text), 0);
                Desk.due("the other text", desk.g.count(1 - text), 1);
            }
            Desk.due("a full one takes characters again", desk.g.type(text, 'a'), true);
            Desk.due("one then", desk.g.count(text), 1);
        }
    }

    @Says("Promise 3: A text becomes empty")
    static void clearLeavesTheRest() {
        Desk desk = Desk.of("A=name;");
        desk.parse("ab");
        desk.g.keep();
        desk.print();
        desk.g.clear(0);
        desk.g.clear(1);
        Desk.due("the description in use", desk.g.count(3), 1);
        Desk.due("the tree", desk.nodes(), "1:0 3:65");
        Desk.due("the one kept", desk.g.count(6), 2);
        Desk.due("the output", desk.output(), "ab");
        Desk.due("an empty input is parsed", Desk.ask(desk.g::parse), -1);
        Desk.due("an empty description is compiled", desk.g.compile(), 1);
    }

    @Says("Promise 3: IndexOutOfBoundsException when there is no such text")
    static void clearOfNone() {
        Desk desk = Desk.of("A=name;");
        desk.write(1, "a");
        for (int text : NO_TEXT) {
            Desk.due("clear " + text, Desk.ask(() -> desk.g.clear(text)), Desk.OUT);
        }
        Desk.due("the description", desk.g.count(0), 7);
        Desk.due("the input", desk.g.count(1), 1);
    }

    @Says("Promise 4: The description becomes one of three (0 .. 2)")
    static void sampleReplaces() {
        for (int k = 0; k < 3; k++) {
            Desk desk = new Desk();
            desk.write(0, "#".repeat(240));
            desk.write(1, "a");
            Desk.due("sample " + k + " in place of a full one", desk.g.sample(k), SAMPLES[k].length());
            Desk.due("it is good", desk.g.compile(), 0);
            Desk.due("sample in place of a sample", desk.g.sample(2 - k), SAMPLES[2 - k].length());
            Desk.due("that is good, too", desk.g.compile(), 0);
            Desk.due("the input stays", desk.g.count(1), 1);
            Desk.due("three rules", desk.g.count(3), 3);
        }
    }

    @Says("Promise 4: its rules as they stand below (single blanks within), a 10 behind the ; of each: how many characters")
    static void sampleCharacters() {
        int[] due = {84, 131, 92};
        for (int k = 0; k < 3; k++) {
            Desk desk = new Desk();
            Desk.due("the text told here", SAMPLES[k].length(), due[k]);
            Desk.due("sample " + k, desk.g.sample(k), due[k]);
            Desk.due("its characters", desk.g.count(0), due[k]);
            desk.g.compile();
            sameRules(desk, Desk.of(SAMPLES[k]));
            desk.g.type(0, '#');
            Desk.due("what is typed stands behind it", desk.g.compile(), 1 + 16 * due[k]);
            for (int room = due[k] + 1; room < 240; room++) {
                desk.g.type(0, '#');
            }
            Desk.due("then it is full", desk.g.type(0, '#'), false);
        }
    }

    private static void sameRules(Desk one, Desk other) {
        for (int what = 3; what <= 4; what++) {
            Desk.due("count " + what, one.g.count(what), other.g.count(what));
        }
        for (int r = 0; r < 3; r++) {
            for (int what = 0; what < 4; what++) {
                Desk.due("rule " + r + " " + what, one.g.rule(r, what), other.g.rule(r, what));
            }
        }
        for (long x = 0; x < 20; x++) {
            long seed = x;
            Desk.due("grow", Desk.ask(() -> one.g.grow(seed, 4)), Desk.ask(() -> other.g.grow(seed, 4)));
        }
    }

    @Says("Promise 4: IllegalArgumentException when there is no such one")
    static void sampleOfNone() {
        Desk desk = Desk.of("A=name;");
        for (int k : new int[] {-1, 3, 4, Integer.MIN_VALUE, Integer.MAX_VALUE}) {
            Desk.due("sample " + k, Desk.ask(() -> desk.g.sample(k)), Desk.ARGUMENT);
            Desk.due("the description stays", desk.g.count(0), 7);
        }
        Desk.due("as it was", desk.g.compile(), 0);
        Desk.due("with one rule", desk.g.count(3), 1);
    }

    @Says("Promise 13: The input becomes the output: how many characters")
    static void carryOfAll() {
        Desk desk = Desk.of("A=name*;");
        desk.write(1, "a".repeat(160));
        Desk.due("carry without an output", desk.g.carry(), 0);
        Desk.due("a full input is empty then", desk.g.count(1), 0);
        desk.parse("\n b\n\na ");
        desk.print();
        Desk.due("carry", desk.g.carry(), 3);
        Desk.due("what was longer is gone", desk.g.count(1), 3);
        Desk.due("carry again", desk.g.carry(), 3);
        Desk.due("the same again", desk.g.count(1), 3);
        Desk.due("the output stays", desk.output(), "b a");
        Desk.due("it is the text that was printed", Desk.ask(desk.g::parse), 4);
        Desk.due("with these names", desk.nodes(), "1:0 5:2 3:2 3:1");
        desk.parse("");
        Desk.due("a tree without tokens", desk.print(), "");
        Desk.due("carry of an empty output", desk.g.carry(), 0);
    }

    @Says("Promise 13: The input becomes the output: how many characters")
    static void carryOfFull() {
        Desk desk = Desk.of("A='!?('.line)*;");
        desk.parse("!" + ".".repeat(80));
        Desk.due("a full output", Desk.ask(desk.g::print), 160);
        Desk.due("carry", desk.g.carry(), 160);
        Desk.due("the input", desk.g.count(1), 160);
        Desk.due("is full", desk.g.type(1, ' '), false);
        Desk.due("and is parsed", Desk.ask(desk.g::parse), 3);
        Desk.due("whole", desk.nodes(), "1:0 6:1 5:80");
    }

    @Says("Promise 16: 0 how many characters a description has, 1 an input, 2 the output")
    static void countOfTexts() {
        Desk desk = Desk.of("A=('.blank)*;");
        desk.parse(". . .");
        desk.g.print();
        Desk.due("description", desk.g.count(0), 13);
        Desk.due("input", desk.g.count(1), 5);
        Desk.due("output", desk.g.count(2), 5);
        desk.parse(".\n\n.");
        Desk.due("input then", desk.g.count(1), 4);
        Desk.due("output as before", desk.g.count(2), 5);
        desk.g.print();
        Desk.due("output then", desk.g.count(2), 3);
        desk.g.clear(0);
        Desk.due("no description", desk.g.count(0), 0);
        desk.g.sample(2);
        Desk.due("a sample", desk.g.count(0), 92);
    }

    @Says("Promise 16: 3 rules and 4 literals of the description in use (0 with one of the faults 1 to 4)")
    static void countOfRules() {
        String[] faulty = {"A='+ B;B=", "A='+ B;A='-;", "A='+|'-|'*|'/|'.|':|'!;", "A='+ B;"};
        for (int k = 0; k < faulty.length; k++) {
            Desk desk = Desk.of("A=B'+;B='+'-;");
            Desk.due("rules", desk.g.count(3), 2);
            Desk.due("literals", desk.g.count(4), 2);
            desk.write(0, faulty[k]);
            Desk.due("rules before compile", desk.g.count(3), 2);
            Desk.due("fault " + (k + 1), desk.g.compile() % 16, k + 1);
            Desk.due("rules with fault " + (k + 1), desk.g.count(3), 0);
            Desk.due("literals with fault " + (k + 1), desk.g.count(4), 0);
        }
        String[] checked = {"A=A '+;B='-;", "A='+ A;B='-;", "A=empty*'+;B='-;", "A='+|'+;B='-;", "A='+*'+;B='-;"};
        for (int k = 0; k < checked.length; k++) {
            Desk desk = new Desk();
            Desk.due("fault " + (k + 5), desk.compile(checked[k]) % 16, k + 5);
            Desk.due("rules with fault " + (k + 5), desk.g.count(3), 2);
            Desk.due("literals with fault " + (k + 5), desk.g.count(4), 2);
        }
    }

    @Says("Promise 16: 3 rules and 4 literals of the description in use")
    static void countOfMost() {
        StringBuilder all = new StringBuilder();
        String signs = "!\"#$%&'()*+,-./:;<=>";
        for (int r = 0; r < 10; r++) {
            all.append((char) ('A' + r)).append("='").append(signs.charAt(2 * r)).append('\'')
                .append(signs.charAt(2 * r + 1)).append(';');
        }
        Desk desk = Desk.of(all.toString());
        Desk.due("ten rules", desk.g.count(3), 10);
        Desk.due("twenty literals", desk.g.count(4), 20);
        desk.compile("A=name;");
        Desk.due("one rule", desk.g.count(3), 1);
        Desk.due("no literal", desk.g.count(4), 0);
    }

    @Says("Promise 16: 5 nodes of the tree, 6 of the one kept")
    static void countOfTrees() {
        Desk desk = Desk.of("A=(name|number)*;");
        desk.parse("a1".repeat(24) + "a");
        Desk.due("a full tree", desk.g.count(5), 100);
        Desk.due("nothing kept", desk.g.count(6), 0);
        desk.g.keep();
        desk.parse("");
        Desk.due("a small tree", desk.g.count(5), 2);
        Desk.due("a full one kept", desk.g.count(6), 100);
        desk.g.compile();
        Desk.due("no tree", desk.g.count(5), 0);
        Desk.due("none kept", desk.g.count(6), 0);
    }

    @Says("Promise 16: -1 for others")
    static void countOfOthers() {
        Desk full = Desk.of("A=name;");
        full.parse("a");
        full.g.keep();
        for (TwoWayGrammar g : new TwoWayGrammar[] {new TwoWayGrammar(), full.g}) {
            for (int what : new int[] {-1, 7, 8, -2, 100, Integer.MIN_VALUE, Integer.MAX_VALUE}) {
                Desk.due("count " + what, g.count(what), -1);
            }
        }
    }
}
