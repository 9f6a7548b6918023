/** Promises 7 and 9: parse and node. */
public final class ParseTest {
    private static final String LIMIT = "throws.UnsupportedOperationException";

    public static void main(String[] args) {
        tree();
        tokens();
        faults();
        values();
        pairs();
        ways();
        depth();
        nodes();
        kindless();
        stays();
        wrongCalls();
        Desk.end();
    }

    private static void tree() {
        Desk desk = Desk.ofSample(0);
        Desk.due("1+x", desk.parse("1+x"), 13);
        Desk.due("kinds and values", desk.nodes(),
            "1:0 1:1 1:2 4:0 2:1 5:0 5:1 4:0 1:1 1:2 4:1 3:24 5:0");
        Desk.due("parents", desk.all(2), "-1 0 1 2 3 1 0 6 6 8 9 10 8");
        Desk.due("sizes", desk.all(3), "12 4 2 1 0 0 6 0 4 2 1 0 0");
        Desk three = Desk.ofSample(2);
        Desk.due("[]", three.parse("[]"), 2);
        Desk.due("[] nodes", three.nodes(), "1:0 6:0");
        Desk.due("[a:1#]", three.parse("[a:1#]"), 9);
        Desk.due("[a:1#] nodes", three.nodes(), "1:0 6:1 1:1 3:1 1:2 4:0 6:0 2:1 5:0");
        Desk.due("[a:1#] parents", three.all(2), "-1 0 1 2 2 4 5 2 1");
        Desk.due("[a:1]", three.parse("[a:1]"), 8);
        Desk.due("[a:1] nodes", three.nodes(), "1:0 6:1 1:1 3:1 1:2 4:2 2:1 5:0");
    }

    private static void tokens() {
        Desk desk = Desk.of("A=(number|name|\"do\"|'.|'')*;");
        Desk.due("tokens", desk.parse("12ab.3 4'do\ndoo'"), 16);
        Desk.due("their nodes", desk.nodes(), "1:0 5:9 4:0 2:12 4:1 3:65 4:3 4:0 2:3 4:0 2:4 4:4 4:2 4:1 3:"
            + Desk.letters("doo") + " 4:4");
        Desk.due("longest number", desk.parse("9999"), 4);
        Desk.due("too long a number", desk.parse("10000"), -1);
        Desk.due("too long, but small", desk.parse("1 00001"), -3);
        Desk.due("longest name", desk.parse("zzzzzz"), 4);
        Desk.due("its value", desk.g.node(3, 1), Desk.letters("zzzzzz"));
        Desk.due("too long a name", desk.parse("a zzzzzzz"), -3);
        Desk.due("a capital", desk.parse("aB"), -2);
        Desk.due("no sign of the description", desk.parse(". ,"), -3);
        Desk.due("blanks alone", desk.parse(" \n "), 2);
        Desk.due("nothing", desk.parse(""), 2);
    }

    private static void faults() {
        Desk desk = Desk.ofSample(0);
        Desk.due("nothing", desk.parse(""), -1);
        Desk.due("blanks", desk.parse("  "), -3);
        Desk.due("the end", desk.parse("1+"), -3);
        Desk.due("the end behind blanks", desk.parse("1 + \n"), -6);
        Desk.due("without a kind", desk.parse("1+@"), -3);
        Desk.due("one before it", desk.parse("1 2 @"), -3);
        Desk.due("behind the start", desk.parse("x )"), -3);
        Desk.due("not closed", desk.parse("( x"), -4);
        Desk two = Desk.ofSample(1);
        Desk.due("a keyword is no name", two.parse("{let do=1;}"), -6);
        Desk.due("a name is no keyword", two.parse("{lets do=1;}"), -2);
        Desk.due("a number is no name", two.parse("{let 5=1;}"), -6);
        Desk.due("all is right", two.parse("{let x=1;}"), 8);
    }

    private static void values() {
        Desk desk = Desk.of("A=number+7 number number+0 name;");
        Desk.due("numbers", desk.parse("9995 007 9999 abc"), 5);
        Desk.due("their values", desk.nodes(), "1:0 2:2 2:7 2:9999 3:" + (1 + 2 * 32 + 3 * 1024));
        desk.parse("0 0 0 a");
        Desk.due("small values", desk.nodes(), "1:0 2:7 2:0 2:0 3:1");
    }

    private static void pairs() {
        Desk desk = Desk.of("A=(number~name)('# number+7)*;");
        Desk.due("a pair", desk.parse("3 ab#1#2"), 6);
        Desk.due("its nodes", desk.nodes(), "1:0 3:65 2:3 5:2 2:8 2:9");
        Desk more = Desk.of("A=(number? B)~(name* '! C);B='+ (name~number);C='- ('# number|'$);");
        Desk.due("a pair of groups", more.parse("5 + a 6 b c ! - # 7"), 12);
        Desk.due("nodes of groups", more.nodes(), "1:0 5:2 3:2 3:3 1:2 4:0 2:7 6:1 2:5 1:1 2:6 3:1");
        Desk.due("parents of groups", more.all(2), "-1 0 1 1 0 4 5 0 7 0 9 9");
        Desk.due("sizes of groups", more.all(3), "11 2 0 0 2 1 0 1 0 2 0 0");
        Desk nested = Desk.of("A=((name~number)~('! ~number))~(name|'$);");
        Desk.due("pairs in pairs", nested.parse("a 1 ! 2 $"), 5);
        Desk.due("nodes of pairs in pairs", nested.nodes(), "1:0 4:1 2:2 2:1 3:1");
        Desk.due("name behind", nested.parse("a 1 ! 2 b"), 6);
        Desk.due("nodes then", nested.nodes(), "1:0 4:0 3:2 2:2 2:1 3:1");
        Desk many = Desk.of("A=(name~number)*;");
        Desk.due("pairs in a many", many.parse("a 1 b 2"), 6);
        Desk.due("nodes in a many", many.nodes(), "1:0 5:2 2:1 3:1 2:2 3:2");
    }

    private static void ways() {
        Desk desk = Desk.of("A=(B|name)'. ;B=number?;");
        Desk.due("a void way by what follows", desk.parse("."), 4);
        Desk.due("its nodes", desk.nodes(), "1:0 4:0 1:1 6:0");
        Desk.due("another way", desk.parse("x."), 3);
        Desk.due("no way", desk.parse(""), -1);
        Desk end = Desk.of("A=name|empty;");
        Desk.due("a void way at the end", end.parse(" "), 2);
        Desk.due("which", end.g.node(1, 1), 1);
        Desk maybe = Desk.of("A=name?;");
        Desk.due("maybe", maybe.parse("a"), 3);
        Desk.due("a maybe is read once", maybe.parse("a b"), -3);
        Desk ten = Desk.of("A=(B);B=(C);C=(D);D=(E);E=(F);F=(G);G=(H);H=(I);I=(J);J=('+|'-);");
        Desk.due("ten rules with groups", ten.parse("-"), 11);
        Desk.due("their nodes", ten.nodes(), "1:0 1:1 1:2 1:3 1:4 1:5 1:6 1:7 1:8 1:9 4:1");
        Desk dots = Desk.of("A='.*;");
        Desk.due("as many as an input has", dots.parse(".".repeat(160)), 2);
        Desk.due("how often", dots.g.node(1, 1), 160);
        Desk six = Desk.of("A='!|'#|'$|'%|'&|'*;");
        Desk.due("the last way", six.parse("*"), 2);
        Desk.due("which", six.g.node(1, 1), 5);
    }

    private static void depth() {
        Desk desk = Desk.ofSample(0);
        Desk.due("12 uses in one another", desk.parse("(((1)))"), 3 * 6 + 7);
        Desk.due("a 13th", desk.parse("((((1))))"), LIMIT);
        Desk.due("a 13th ahead of the end", desk.parse("(((("), LIMIT);
        Desk.due("a 13th ahead of a wrong token", desk.parse("((((+"), LIMIT);
        Desk.due("a fault ahead of it", desk.parse("(((+(1"), -4);
        Desk.due("side by side is not in one another", desk.parse("1+1+1+1+1*1"), 1 + 5 + 1 + 3 * 6 + 10);
        Desk deep = Desk.of("A='+((((A))))|'-;");
        Desk.due("groups in uses", deep.parse("+".repeat(11) + "-"), 24);
        Desk.due("groups in too many uses", deep.parse("+".repeat(12) + "-"), LIMIT);
    }

    private static void nodes() {
        Desk desk = Desk.of("A=(name|number)*;");
        Desk.due("100 nodes", desk.parse("a1".repeat(24) + "a"), 100);
        Desk.due("more than 100 nodes", desk.parse("a1".repeat(25)), LIMIT);
        String full = "a,1,".repeat(24) + "a,";
        Desk choice = Desk.of("A=((name|number)',)*('!|'#);");
        Desk.due("a wrong token ahead of its choice's limit", choice.parse(full + ","), -1 - 98);
        Desk.due("the limit at a choice", choice.parse(full + "!"), LIMIT);
        Desk.due("the limit, with wrong tokens behind", choice.parse(full + "! !"), LIMIT);
        Desk name = Desk.of("A=((name|number)',)*':name;");
        Desk.due("a wrong token ahead of its node's limit", name.parse(full + ":5"), -1 - 99);
        Desk.due("the limit at a name", name.parse(full + ":b"), LIMIT);
        Desk number = Desk.of("A=((name|number)',)*':number;");
        Desk.due("no number ahead of its node's limit", number.parse(full + ":b"), -1 - 99);
        Desk.due("the limit at a number", number.parse(full + ":5"), LIMIT);
        Desk many = Desk.of("A=((name|number)',)*':'.*'#;");
        Desk.due("a many's node comes before what is read", many.parse(full + ":,"), LIMIT);
        Desk maybe = Desk.of("A=((name|number)',)*':'.?'#;");
        Desk.due("a maybe's node comes before what is read", maybe.parse(full + ":"), LIMIT);
        Desk use = Desk.of("A=((name|number)',)*':B;B='#;");
        Desk.due("a use's node comes before what is read", use.parse(full + ":,"), LIMIT);
        Desk.due("a fault ahead of a use", use.parse(full + ",:#"), -1 - 98);
    }

    /** The document: a token without a kind is at fault when it is the next one. */
    private static void kindless() {
        Desk desk = Desk.ofSample(0);
        Desk.due("ahead of a 13th use", desk.parse("((((@"), -5);
        Desk.due("behind a limit", desk.parse("((((1@"), LIMIT);
        String full = "a,1,".repeat(24) + "a,";
        Desk many = Desk.of("A=((name|number)',)*':'.*'#;");
        Desk.due("ahead of a many's limit", many.parse(full + ":@"), -1 - 99);
    }

    private static void stays() {
        Desk desk = Desk.ofSample(0);
        desk.parse("1");
        String before = desk.nodes();
        Desk.due("a fault", desk.parse("1+1+"), -5);
        Desk.due("the tree before stays", desk.nodes(), before);
        Desk.due("a limit", desk.parse("((((1))))"), LIMIT);
        Desk.due("the tree before stays", desk.nodes(), before);
        Desk.due("a fault at once behind a limit", desk.parse("@"), -1);
        Desk.due("a tree behind both", desk.parse("x"), 7);
    }

    private static void wrongCalls() {
        Desk desk = Desk.of("A=name;");
        Desk.due("no tree", Desk.ask(() -> desk.g.node(0, 0)), "throws.NoSuchElementException");
        desk.parse("x");
        for (int k : new int[] {-1, 2, 100, Integer.MIN_VALUE, Integer.MAX_VALUE}) {
            Desk.due("node " + k, Desk.ask(() -> desk.g.node(k, 0)), "throws.NoSuchElementException");
            Desk.due("node " + k + ", 4", Desk.ask(() -> desk.g.node(k, 4)), "throws.NoSuchElementException");
        }
        for (int what : new int[] {-1, 4, Integer.MIN_VALUE, Integer.MAX_VALUE}) {
            Desk.due("node 1, " + what, Desk.ask(() -> desk.g.node(1, what)), "throws.IllegalArgumentException");
        }
    }
}
