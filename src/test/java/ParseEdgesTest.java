/** The input, trees, parsing and the promises 7 and 9, each sentence with an edge in it by a method of its own. */
public final class ParseEdgesTest {
    /** By this form and 49 times the two behind it, a tree has 100 nodes: no node more. */
    private static final String FULL_FORM = "((name|number)',)*':";
    private static final String FULL_INPUT = "a,1,".repeat(24) + "a,:";
    /** By this one and the 48 times behind it, a tree has 99 nodes: one more. */
    private static final String NEARLY_FORM = "'!?" + FULL_FORM;
    private static final String NEARLY_INPUT = "a,1,".repeat(24) + ":";

    public static void main(String[] args) throws ReflectiveOperationException {
        Sentences.run(ParseEdgesTest.class);
    }

    @Says("all digits that follow one another (a NUMBER, if at most 4)")
    static void numbers() {
        String form = "A=(number|name|'.)*;";
        Desk.dueRead(form, "0", "1:0 5:1 4:0 2:0");
        Desk.dueRead(form, "9", "1:0 5:1 4:0 2:9");
        Desk.dueRead(form, "9999", "1:0 5:1 4:0 2:9999");
        Desk.dueRead(form, "0000", "1:0 5:1 4:0 2:0");
        Desk.dueRead(form, "0012", "1:0 5:1 4:0 2:12");
        Desk.dueRead(form, "10000", "-1");
        Desk.dueRead(form, "00000", "-1");
        Desk.dueRead(form, "1 12345", "-3");
        Desk.dueRead(form, "1" + "0".repeat(159), "-1");
        Desk.dueRead(form, "1234 5678", "1:0 5:2 4:0 2:1234 4:0 2:5678");
        Desk.dueRead(form, "12.34", "1:0 5:3 4:0 2:12 4:2 4:0 2:34");
        Desk.dueRead(form, "12ab34", "1:0 5:3 4:0 2:12 4:1 3:65 4:0 2:34");
    }

    @Says("all letters a .. z that follow one another (the keyword, if the description has it, or else a NAME, if at most 6)")
    static void words() {
        String form = "A=(\"do\"|\"abcde\"|name|number)*;";
        Desk.dueRead(form, "do", "1:0 5:1 4:0");
        Desk.dueRead(form, "abcde", "1:0 5:1 4:1");
        for (String name : new String[] {"a", "z", "d", "o", "od", "doo", "dodo", "abcd", "abcdef", "zzzzzz"}) {
            Desk.dueRead(form, name, "1:0 5:1 4:2 3:" + Desk.letters(name));
        }
        Desk.dueRead(form, "abcdefg", "-1");
        Desk.dueRead(form, "a zzzzzzz", "-3");
        Desk.dueRead(form, "a".repeat(160), "-1");
        Desk.dueRead(form, "a".repeat(32) + "do", "-1");
        Desk.dueRead(form, "d o", "1:0 5:2 4:2 3:4 4:2 3:15");
        Desk.dueRead(form, "do1do", "1:0 5:3 4:0 4:3 2:1 4:0");
        Desk.dueRead("A=name;", "number", "1:0 3:" + Desk.letters("number"));
    }

    @Says("and any other character but a blank (the sign, if the description has it)")
    static void signs() {
        for (int c = 33; c <= 126; c++) {
            boolean word = c >= 'a' && c <= 'z' || c >= '0' && c <= '9';
            boolean capital = c >= 'A' && c <= 'Z';
            if (!word && !capital) {
                Desk.dueRead("A='" + (char) c + "*;", "" + (char) c + (char) c, "1:0 5:2");
                Desk.dueRead("A='" + (c == '!' ? '#' : '!') + "*;", "" + (char) c, "-1");
            }
        }
    }

    @Says("What is none of these has no kind")
    static void noKind() {
        for (char c = 'A'; c <= 'Z'; c++) {
            Desk.dueRead("A=(name|number|'!)*;", "a" + c, "-2");
        }
        Desk.dueRead("A=(name|number|'!)*;", "a b 1 ! \n,", "-10");
        Desk.dueRead("A=name*;", "a 12345", "-3");
        Desk.dueRead("A=name*;", "a abcdefg", "-3");
    }

    @Says("a use (and the start) 1, its value the rule's number (in the order of the text)")
    static void useNodes() {
        Desk.dueRead("Z=Q;Q=A;A='!;", "!", "1:0 1:1 1:2");
        Desk.dueRead("Z=A Q;Q='#;A='!;", "!#", "1:0 1:2 1:1");
        Desk.dueRead("A=B;B=C;C=D;D=E;E=F;F=G;G=H;H=I;I=J;J='!;", "!", "1:0 1:1 1:2 1:3 1:4 1:5 1:6 1:7 1:8 1:9");
        Desk.dueRead("A='( A ')|'!;", "((!))", "1:0 4:0 1:0 4:0 1:0 4:1");
    }

    @Says("its value the number, plus the digit behind + modulo 10000")
    static void numberNodes() {
        Desk.dueRead("A=number+1;", "9999", "1:0 2:0");
        Desk.dueRead("A=number+1;", "9998", "1:0 2:9999");
        Desk.dueRead("A=number+9;", "9990", "1:0 2:9999");
        Desk.dueRead("A=number+9;", "9991", "1:0 2:0");
        Desk.dueRead("A=number+9;", "9999", "1:0 2:8");
        Desk.dueRead("A=number+9;", "0", "1:0 2:9");
        Desk.dueRead("A=number+0;", "9999", "1:0 2:9999");
        Desk.dueRead("A=number+0;", "0", "1:0 2:0");
        Desk.dueRead("A=number;", "9999", "1:0 2:9999");
        Desk.dueRead("A=number+1 number number+2;", "1 1 1", "1:0 2:2 2:1 2:3");
    }

    @Says("name 3, its letters, five bits each, a being 1, the first lowest")
    static void nameNodes() {
        Desk.dueRead("A=name;", "a", "1:0 3:1");
        Desk.dueRead("A=name;", "z", "1:0 3:26");
        Desk.dueRead("A=name;", "az", "1:0 3:" + (1 + 26 * 32));
        Desk.dueRead("A=name;", "za", "1:0 3:" + (26 + 32));
        Desk.dueRead("A=name;", "aaaaaa", "1:0 3:" + (1 + 32 + 1024 + 32768 + 1048576 + 33554432));
        Desk.dueRead("A=name;", "zzzzzz", "1:0 3:" + 26L * (1 + 32 + 1024 + 32768 + 1048576 + 33554432));
    }

    @Says("a choice 4, which alternative (from 0)")
    static void choiceNodes() {
        String six = "A=name|number|'!|'#|\"do\"|'$;";
        Desk.dueRead(six, "a", "1:0 4:0 3:1");
        Desk.dueRead(six, "7", "1:0 4:1 2:7");
        Desk.dueRead(six, "!", "1:0 4:2");
        Desk.dueRead(six, "do", "1:0 4:4");
        Desk.dueRead(six, "$", "1:0 4:5");
    }

    @Says("many 5, how often; maybe 6, 0 or 1")
    static void repeatNodes() {
        Desk.dueRead("A='.*;", "", "1:0 5:0");
        Desk.dueRead("A='.*;", ".", "1:0 5:1");
        Desk.dueRead("A='.*;", ".".repeat(160), "1:0 5:160");
        Desk.dueRead("A='.?;", "", "1:0 6:0");
        Desk.dueRead("A='.?;", ".", "1:0 6:1");
        Desk.dueRead("A='.?;", "..", "-2");
    }

    @Says("the others have no nodes of their own")
    static void noNodes() {
        Desk.dueRead("A=empty blank line deeper back '! \"do\"(('#));", "!do#", "1:0");
        Desk.dueRead("A=((name)~('!));", "a!", "1:0 3:1");
        Desk.dueRead("A=empty;", "", "1:0");
    }

    @Says("Of a swapped pair the nodes of the second come before those of the first")
    static void swappedNodes() {
        Desk.dueRead("A=name~number;", "a 1", "1:0 2:1 3:1");
        Desk.dueRead("A=name number;", "a 1", "1:0 3:1 2:1");
        Desk.dueRead("A=name~'!;", "a!", "1:0 3:1");
        Desk.dueRead("A='!~name;", "!a", "1:0 3:1");
        Desk.dueRead("A='!~'#;", "!#", "1:0");
        Desk.dueRead("A=name*~number?;", "a b", "1:0 6:0 5:2 3:1 3:2");
        Desk.dueRead("A=name*~number?;", "", "1:0 6:0 5:0");
        Desk.dueRead("A=(name~number)~('!|'#);", "a 1 #", "1:0 4:1 2:1 3:1");
        Desk.dueRead("A=(name~number)*;", "a1b2", "1:0 5:2 2:1 3:1 2:2 3:2");
        Desk.dueRead("A=name~number name~number;", "a 1 b 2", "1:0 2:1 3:1 2:2 3:2");
        Desk.dueRead("A=B~C;B=name number;C='!?;", "a 1 !", "1:0 1:2 6:1 1:1 3:1 2:1");
    }

    @Says("A tree has at most 100 nodes")
    static void hundredNodes() {
        String[] parts = {"B", "number", "name", "('#|'$)", "'#*", "'#?"};
        String[] tokens = {"#", "5", "b", "$", "##", "#"};
        for (int k = 0; k < parts.length; k++) {
            Desk nearly = Desk.of("A=" + NEARLY_FORM + parts[k] + ";B='#;");
            Desk.due("a 100th node, " + parts[k], nearly.parse(NEARLY_INPUT + tokens[k]), 100);
            Desk full = Desk.of("A=" + FULL_FORM + parts[k] + ";B='#;");
            Desk.due("a 101st node, " + parts[k], full.parse(FULL_INPUT + tokens[k]), Desk.LIMIT);
        }
        Desk.due("100 nodes and then tokens alone", Desk.of("A=" + FULL_FORM + "'#'#;").parse(FULL_INPUT + "##"), 100);
    }

    @Says("and at most 12 uses (and the start) in one another")
    static void twelveUses() {
        String alone = "A='( A ')|'. ;";
        Desk.due("12 in one another", Desk.of(alone).parse("(".repeat(11) + "." + ")".repeat(11)), 24);
        Desk.due("13 in one another", Desk.of(alone).parse("(".repeat(12) + "." + ")".repeat(12)), Desk.LIMIT);
        Desk.due("12 by sample 0", Desk.ofSample(0).parse("(((x)))"), 25);
        Desk.due("15 by sample 0", Desk.ofSample(0).parse("((((x))))"), Desk.LIMIT);
        Desk.due("side by side", Desk.of("A=B*;B='. ;").parse(".".repeat(98)), 100);
        String groups = "A='( ((((A)))) ')|'. ;";
        Desk.due("12 with groups between", Desk.of(groups).parse("(".repeat(11) + "." + ")".repeat(11)), 24);
        Desk.due("13 with groups between", Desk.of(groups).parse("(".repeat(12) + "." + ")".repeat(12)), Desk.LIMIT);
        String back = "A='( A ') A?|'. ;";
        Desk.due("one is left before the next", Desk.of(back).parse("((((((((((.)))))))))).").startsWith("throws"), false);
    }

    @Says("PARSING by a good description begins with the start, and behind it is the END")
    static void behindTheStart() {
        Desk.dueRead("A=name;", "a", "1:0 3:1");
        Desk.dueRead("A=name;", "a b", "-3");
        Desk.dueRead("A=name;", "a 1", "-3");
        Desk.dueRead("A=empty;", "", "1:0");
        Desk.dueRead("A=empty;", " \n", "1:0");
        Desk.dueRead("A=empty;", "a", "-1");
        Desk.dueRead("A='. B?;B='!;", ".!!", "-3");
    }

    @Says("at a choice the alternative goes on whose directors have the kind of the next token")
    static void atChoices() {
        String form = "A=(name|number?|'!)'.;";
        Desk.dueRead(form, "a.", "1:0 4:0 3:1");
        Desk.dueRead(form, "1.", "1:0 4:1 6:1 2:1");
        Desk.dueRead(form, ".", "1:0 4:1 6:0");
        Desk.dueRead(form, "!.", "1:0 4:2");
        Desk.dueRead(form, "", "-1");
        Desk.dueRead("A=name|empty;", "", "1:0 4:1");
        Desk.dueRead("A=name|empty;", "1", "-1");
        Desk.dueRead("A=(name|empty)'.;B=(name|empty)number;", "1", "-1");
        Desk.dueRead("A='( B ')|B '.;B=name?;", "(a)", "1:0 4:0 1:1 6:1 3:1");
        Desk.dueRead("A='( B ')|B '.;B=name?;", "()", "1:0 4:0 1:1 6:0");
        Desk.dueRead("A='( B ')|B '.;B=name?;", ".", "1:0 4:1 1:1 6:0");
        Desk.dueRead("A='( B ')|B '.;B=name?;", "(.", "-2");
    }

    @Says("what is in a many is read again, that in a maybe once, if its starts have it")
    static void repeats() {
        Desk.dueRead("A=(name '.)*;", "a.b.c.", "1:0 5:3 3:1 3:2 3:3");
        Desk.dueRead("A=(name '.)*;", "a.b", "-4");
        Desk.dueRead("A=(name '.)?;", "a.", "1:0 6:1 3:1");
        Desk.dueRead("A=(name '.)?;", "a.b.", "-3");
        Desk.dueRead("A=(name? '.)*'!;", "a..b.!", "1:0 5:3 6:1 3:1 6:0 6:1 3:2");
        Desk.dueRead("A=(name '.)*'!;", "", "-1");
    }

    @Says("other tokens must be those that stand there")
    static void otherTokens() {
        Desk.dueRead("A='! \"do\" name number '.;", "! do a 1 .", "1:0 3:1 2:1");
        String[] wrong = {"# do a 1 .", "! da a 1 .", "! do do 1 .", "! do a b .", "! do a 1 !", "! do 1 1 .", "! do a do ."};
        int[] places = {0, 2, 5, 7, 9, 5, 7};
        for (int k = 0; k < wrong.length; k++) {
            Desk.dueRead("A='! \"do\" name number '.;", wrong[k], "" + (-1 - places[k]));
        }
    }

    @Says("The nodes of uses, manys and maybes come before anything in them is read")
    static void nodesBefore() {
        for (String part : new String[] {"B", "'#*", "'#?", "B*", "B?"}) {
            Desk desk = Desk.of("A=" + FULL_FORM + part + "'.;B='#;");
            Desk.due("a wrong token behind a limit, " + part, desk.parse(FULL_INPUT + ","), Desk.LIMIT);
            Desk.due("the end behind a limit, " + part, desk.parse(FULL_INPUT), Desk.LIMIT);
            Desk.due("a right one behind a limit, " + part, desk.parse(FULL_INPUT + "#."), Desk.LIMIT);
        }
        Desk uses = Desk.of("A='( A ')|'. ;");
        Desk.due("a wrong token behind a 13th use", uses.parse("(".repeat(12) + ")"), Desk.LIMIT);
        Desk.due("the end behind a 13th use", uses.parse("(".repeat(12)), Desk.LIMIT);
    }

    @Says("that of a choice when the alternative is known")
    static void choiceWhenKnown() {
        Desk desk = Desk.of("A=" + FULL_FORM + "('#|'$);");
        Desk.due("a token that can't be there, ahead of the limit", desk.parse(FULL_INPUT + "5"), -1 - 99);
        Desk.due("the end, ahead of the limit", desk.parse(FULL_INPUT), -1 - 99);
        Desk.due("one that can be there", desk.parse(FULL_INPUT + "$"), Desk.LIMIT);
    }

    @Says("those of numbers and names when their token was right")
    static void leavesWhenRight() {
        for (String part : new String[] {"number", "name"}) {
            Desk desk = Desk.of("A=" + FULL_FORM + part + ";");
            boolean number = part.equals("number");
            Desk.due("a wrong token, ahead of the limit", desk.parse(FULL_INPUT + (number ? "b" : "5")), -1 - 99);
            Desk.due("the end, ahead of the limit", desk.parse(FULL_INPUT), -1 - 99);
            Desk.due("a right one", desk.parse(FULL_INPUT + (number ? "5" : "b")), Desk.LIMIT);
            Desk.due("a right one, with a wrong one behind", desk.parse(FULL_INPUT + (number ? "5,," : "b,,")), Desk.LIMIT);
        }
    }

    @Says("also one without a kind, when it is the next one")
    static void kindlessIsNext() {
        Desk.dueRead("A=name name;", "@", "-1");
        Desk.dueRead("A=name name;", "a @", "-3");
        Desk.dueRead("A=name name;", "a 1 @", "-3");
        Desk.dueRead("A=name name;", "a b @", "-5");
        Desk.dueRead("A=name name;", "a b c @", "-5");
        Desk.dueRead("A=name*;", "a b 12345", "-5");
        Desk.dueRead("A=empty;", "abcdefg", "-1");
        Desk uses = Desk.of("A='( A ')|'. ;");
        Desk.due("it is the next one ahead of a 13th use", uses.parse("(".repeat(12) + "@"), -1 - 12);
        Desk.due("it is not the next one yet", uses.parse("(".repeat(12) + ".@"), Desk.LIMIT);
        Desk many = Desk.of("A=" + FULL_FORM + "'#*;");
        Desk.due("it is the next one ahead of a many's node", many.parse(FULL_INPUT + "@"), -1 - 99);
    }

    @Says("with the place of its first character (the END with the place behind the last character of the text)")
    static void places() {
        Desk.dueRead("A=name '!;", "", "-1");
        Desk.dueRead("A=name '!;", "   ", "-4");
        Desk.dueRead("A=name '!;", "abc", "-4");
        Desk.dueRead("A=name '!;", "abc \n\n", "-7");
        Desk.dueRead("A=name '!;", "abc \n\ndef", "-7");
        Desk.dueRead("A=name '!;", "\n  1234", "-4");
        Desk.dueRead("A='.*'!;", ".".repeat(160), "-161");
        Desk.dueRead("A='.*'!;", ".".repeat(159) + "1", "-160");
        Desk.dueRead("A='.*'!;", " ".repeat(160), "-161");
    }

    @Says("Promise 7: how many nodes the tree has")
    static void parseAnswers() {
        Desk.due("one node", Desk.of("A='!;").parse("!"), 1);
        Desk.due("one node of nothing", Desk.of("A=empty;").parse(""), 1);
        Desk full = Desk.of("A=" + FULL_FORM + "'#;");
        Desk.due("100 nodes", full.parse(FULL_INPUT + "#"), 100);
        Desk.due("as many as count() tells", full.g.count(5), 100);
        Desk.due("fewer in place of them", full.parse(":#"), 2);
        Desk.due("as many as count() tells then", full.g.count(5), 2);
    }

    @Says("Promise 7: or -1 - the place that is at fault: then the tree before stays")
    static void faultLeavesTree() {
        Desk none = Desk.of("A=name*;");
        Desk.due("a fault", none.parse("a b 1"), -5);
        Desk.due("no tree before", none.g.count(5), 0);
        Desk desk = Desk.of("A=name*;");
        desk.parse("c d");
        desk.g.keep();
        for (String wrong : new String[] {"1", "a 1", "e f g 1", "@", "d c 12345"}) {
            Desk.due("a fault", desk.parse(wrong).startsWith("-"), true);
            Desk.due("the tree before", desk.nodes(), "1:0 5:2 3:3 3:4");
            Desk.due("is the one kept", desk.g.compare(), 0);
        }
        Desk.due("and is printed", desk.print(), "c d");
    }

    @Says("Promise 7: IllegalStateException when the description in use is not good")
    static void parseByNone() {
        TwoWayGrammar g = new TwoWayGrammar();
        g.sample(0);
        Desk.due("before any compile", Desk.ask(g::parse), Desk.STATE);
        String[] faulty = {
            "A=", "A=name;A=name;", "A=((((('+)))));", "A=B;", "A=A;", "A='+ A;", "A=line*;", "A='+|'+;", "A='+*'+;",
        };
        for (int k = 0; k < faulty.length; k++) {
            Desk desk = Desk.of("A=name;");
            Desk.due("fault " + (k + 1), desk.compile(faulty[k]) % 16, k + 1);
            Desk.due("parse with fault " + (k + 1), desk.parse("+"), Desk.STATE);
            Desk.due("parse of what has no kind", desk.parse("@"), Desk.STATE);
            desk.compile("A=name;");
            Desk.due("a good one again", desk.parse("x"), 2);
        }
    }

    @Says("Promise 7: else UnsupportedOperationException when a limit would be passed before a token is at fault (the tree before stays)")
    static void limitLeavesTree() {
        Desk desk = Desk.of("A='( A ')|'.*;");
        Desk.due("a limit", desk.parse("(".repeat(12)), Desk.LIMIT);
        Desk.due("no tree before", desk.g.count(5), 0);
        desk.parse("(..)");
        desk.g.keep();
        Desk.due("a limit", desk.parse("(".repeat(12) + "." + ")".repeat(12)), Desk.LIMIT);
        Desk.due("the tree before", desk.nodes(), "1:0 4:0 1:0 4:1 5:2");
        Desk.due("is the one kept", desk.g.compare(), 0);
        Desk.due("a fault before a limit", desk.parse("((!" + "(".repeat(12)), -3);
        Desk.due("a limit before a fault", desk.parse("(".repeat(12) + ".("), Desk.LIMIT);
        Desk.due("a limit before the end is at fault", desk.parse("(".repeat(12) + "."), Desk.LIMIT);
        Desk.due("a right one behind them", desk.parse(""), 3);
    }

    @Says("Promise 9: what = 0 its kind, 1 its value, 2 the node that it is in (-1 for the first)")
    static void nodeAnswers() {
        Desk desk = Desk.of("A=B(name|number)*C?;B='!;C='$(name|'#)~number;");
        Desk.due("nodes", desk.parse("!a 1$b 2"), 12);
        Desk.due("kinds", desk.all(0), "1 1 5 4 3 4 2 6 1 2 4 3");
        Desk.due("values", desk.all(1), "0 1 2 0 1 1 1 1 2 2 0 2");
        Desk.due("the node that each is in", desk.all(2), "-1 0 0 2 3 2 5 0 7 8 8 10");
        Desk one = Desk.of("A='!;");
        one.parse("!");
        Desk.due("a node alone", one.all(0) + " " + one.all(1) + " " + one.all(2) + " " + one.all(3), "1 0 -1 0");
    }

    @Says("Promise 9: 3 how many nodes stand in it, nodes in these counted too")
    static void nodeSizes() {
        Desk desk = Desk.of("A=B(name|number)*C?;B='!;C='$(name|'#)~number;");
        desk.parse("!a 1$b 2");
        Desk.due("how many stand in each", desk.all(3), "11 0 4 1 0 1 0 4 3 0 1 0");
        desk.parse("!");
        Desk.due("nothing in a many and a maybe", desk.all(3), "3 0 0 0");
        Desk full = Desk.of("A=" + FULL_FORM + "'#;");
        full.parse(FULL_INPUT + "#");
        Desk.due("99 in the first", full.g.node(0, 3), 99);
        Desk.due("98 in the many", full.g.node(1, 3), 98);
        Desk.due("none in the last", full.g.node(99, 3), 0);
        Desk.due("which is in the one before", full.g.node(99, 2), 98);
    }

    @Says("Promise 9: NoSuchElementException when there is no such node")
    static void nodeOfNone() {
        Desk desk = Desk.of("A=name*;");
        Desk.due("node 0 without a tree", Desk.ask(() -> desk.g.node(0, 0)), Desk.ELEMENT);
        Desk.due("node 0, 4 without a tree", Desk.ask(() -> desk.g.node(0, 4)), Desk.ELEMENT);
        desk.parse("a b c");
        desk.parse("a");
        Desk.due("the last node", Desk.ask(() -> desk.g.node(2, 0)), 3);
        for (int k : new int[] {-1, 3, 4, 99, 100, Integer.MIN_VALUE, Integer.MAX_VALUE}) {
            for (int what : new int[] {0, 1, 2, 3, 4, -1}) {
                Desk.due("node " + k + ", " + what, Desk.ask(() -> desk.g.node(k, what)), Desk.ELEMENT);
            }
        }
        Desk full = Desk.of("A=" + FULL_FORM + "'#;");
        full.parse(FULL_INPUT + "#");
        Desk.due("node 99 of 100", Desk.ask(() -> full.g.node(99, 0)), 3);
        Desk.due("node 100 of 100", Desk.ask(() -> full.g.node(100, 0)), Desk.ELEMENT);
    }

    @Says("Promise 9: else IllegalArgumentException when what is none of these")
    static void nodeOfOthers() {
        Desk desk = Desk.of("A=name;");
        desk.parse("a");
        for (int what : new int[] {-1, 4, 5, -2, Integer.MIN_VALUE, Integer.MAX_VALUE}) {
            for (int k = 0; k < 2; k++) {
                int asked = k;
                Desk.due("node " + k + ", " + what, Desk.ask(() -> desk.g.node(asked, what)), Desk.ARGUMENT);
            }
        }
    }
}
