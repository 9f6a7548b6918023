/** Promises 11, 12 and 13: print, output, carry; and that what is printed is read as the same tree. */
public final class PrintTest {
    private static final String STATE = "throws.IllegalStateException";
    private static final String OUT = "throws.IndexOutOfBoundsException";
    private static final String LIMIT = "throws.UnsupportedOperationException";

    public static void main(String[] args) {
        tokens();
        layout();
        pairs();
        numbers();
        rooms();
        outputs();
        carrying();
        bothWays();
        Desk.end();
    }

    private static String printed(Desk desk, String input) {
        String answer = desk.parse(input);
        return answer.startsWith("throws") || answer.startsWith("-") ? answer : desk.print();
    }

    private static void tokens() {
        Desk desk = Desk.of("A=((name|number|\"do\")|('+|''|'\"|'_))*;");
        Desk.due("words and numbers", printed(desk, "a  b\n1 2do do3c"), "a b 1 2 do do 3 c");
        Desk.due("signs", printed(desk, "a + 1 + + do ' x \" 5 _ 7 _ _"), "a+1++do'x\"5_7__");
        Desk.due("nothing", printed(desk, " "), "");
        Desk.due("the longest", printed(desk, "abcdef 9999 zzzzzz"), "abcdef 9999 zzzzzz");
    }

    private static void layout() {
        Desk desk = Desk.of("A=line blank'!line deeper'#blank line back back'$blank'%'&line;");
        Desk.due("lines, levels and blanks", printed(desk, "!#$%&"), "!\n  #\n$ %&");
        Desk twice = Desk.of("A=deeper'! line line'# blank blank name blank number number;");
        Desk.due("a level ahead of the first token; two are one", printed(twice, "!#a1 2"), "!\n  # a 1 2");
        Desk level = Desk.of("A=name deeper deeper line back name back name line name;");
        Desk.due("the level that there is then", printed(level, "a b c d"), "a\n  b c\nd");
        Desk many = Desk.of("A=('. line deeper)*back '!;");
        Desk.due("deeper and deeper", printed(many, "...!"), ".\n  .\n    .\n    !");
        Desk again = Desk.of("A=deeper name(line name)*;");
        Desk.due("first", printed(again, "a b"), "a\n  b");
        Desk.due("the level begins anew", printed(again, "a b"), "a\n  b");
        Desk.due("empty is nothing", printed(Desk.of("A='!empty'#;"), "! #"), "!#");
        Desk late = Desk.of("A=name line;");
        Desk.due("nothing behind the last", printed(late, "a"), "a");
        Desk.due("a line that came is not kept", printed(late, "b"), "b");
        Desk one = Desk.ofSample(1);
        Desk.due("a program", printed(one, "{let x=5;do{put- -7;}do{}}"),
            "{\n  let x = 5;\n  do{\n    put--7;\n  }\n  do{\n  }\n}");
    }

    private static void pairs() {
        Desk desk = Desk.of("A=(number? B)~(name* '! C);B='+ (name~number);C='- ('# number|'$);");
        Desk.due("pairs of groups", printed(desk, "5 + a 6 b c ! - # 7"), "5+a 6 b c!-#7");
        Desk.due("pairs with nothing in them", printed(desk, "+ a 6 ! - $"), "+a 6!-$");
        Desk nested = Desk.of("A=((name~number)~('! ~number))~(name|'$)name;");
        Desk.due("pairs in pairs", printed(nested, "a 1 ! 2 b c"), "a 1!2 b c");
        Desk.due("and another way", printed(nested, "a 1 ! 2 $ c"), "a 1!2$c");
        Desk many = Desk.of("A=((number~B)'. )*name;B=('# B)?~(name|'-);");
        Desk.due("pairs in a many", printed(many, "1 # # a - b . 2 - . c"), "1##a-b.2-.c");
        Desk.due("a pair alone", printed(Desk.of("A=name~number;"), "b 7"), "b 7");
        Desk choice = Desk.of("A=name~('$|number number)number;");
        Desk.due("a choice in a pair", printed(choice, "a $ 1"), "a$1");
        Desk.due("another choice in a pair", printed(choice, "a 3 2 1"), "a 3 2 1");
        Desk.due("use first", printed(Desk.of("A=B~C;B=name;C=number;"), "c 9"), "c 9");
    }

    private static void numbers() {
        Desk desk = Desk.of("A=number+7 number;");
        Desk.due("without 0 in front", printed(desk, "0012 007"), "12 7");
        Desk.due("nothing but 0", printed(desk, "0 0000"), "0 0");
        Desk.due("four digits", printed(desk, "9999 1000"), "9999 1000");
        desk.g.set(1, 3);
        desk.g.set(2, 100);
        Desk.due("taken off modulo 10000", desk.print(), "9996 100");
        desk.g.set(1, 7);
        desk.g.set(2, 10);
        Desk.due("taken off", desk.print(), "0 10");
        Desk name = Desk.of("A=name;");
        name.parse("a");
        name.g.set(1, Desk.letters("qrstuv"));
        Desk.due("another name", name.print(), "qrstuv");
    }

    private static void rooms() {
        String dots = "A='!?('.line)*;";
        Desk.due("159", printed(Desk.of(dots), ".".repeat(80)).length(), 159);
        Desk.due("160", printed(Desk.of(dots), "!" + ".".repeat(80)).length(), 160);
        Desk.due("161", printed(Desk.of(dots), ".".repeat(81)), LIMIT);
        Desk.due("162", printed(Desk.of(dots), "!" + ".".repeat(81)), LIMIT);
        Desk desk = Desk.of(dots);
        Desk.due("few", printed(desk, "!.."), "!.\n.");
        Desk.due("too many", printed(desk, ".".repeat(81)), LIMIT);
        Desk.due("the output before stays", desk.output(), "!.\n.");
        Desk.due("few again", printed(desk, ".."), ".\n.");
        String word = "A=('.line)*name;";
        Desk.due("a name ends it", printed(Desk.of(word), ".".repeat(78) + "abcd").length(), 160);
        Desk.due("a name too long", printed(Desk.of(word), ".".repeat(78) + "abcde"), LIMIT);
        String deep = "A=('.deeper)*line'!;";
        Desk.due("a level too deep", printed(Desk.of(deep), ".".repeat(53) + "!"), LIMIT);
        Desk.due("a level that fits", printed(Desk.of(deep), ".".repeat(52) + "!").length(), 52 + 1 + 104 + 1);
    }

    private static void outputs() {
        Desk desk = Desk.of("A=name;");
        Desk.due("no output", Desk.ask(() -> desk.g.output(0)), OUT);
        Desk.due("print without a tree", Desk.ask(desk.g::print), STATE);
        Desk.due("a name", printed(desk, "xy"), "xy");
        Desk.due("character 1", Desk.ask(() -> desk.g.output(1)), "y");
        for (int k : new int[] {-1, 2, 160, Integer.MIN_VALUE, Integer.MAX_VALUE}) {
            Desk.due("output " + k, Desk.ask(() -> desk.g.output(k)), OUT);
        }
        desk.compile("A=name;");
        Desk.due("print behind compile", Desk.ask(desk.g::print), STATE);
        Desk.due("the output stays", desk.output(), "xy");
        Desk empty = Desk.of("A=name?;");
        Desk.due("a name", printed(empty, "x"), "x");
        Desk.due("no token", printed(empty, ""), "");
        Desk.due("an empty output", Desk.ask(() -> empty.g.output(0)), OUT);
    }

    private static void carrying() {
        Desk desk = Desk.of("A=name '=blank number;");
        desk.write(1, "what was before");
        Desk.due("carry without output", desk.g.carry(), 0);
        Desk.due("no input then", desk.g.count(1), 0);
        Desk.due("printed", printed(desk, "a=\n05"), "a= 5");
        Desk.due("the input as it was", desk.g.count(1), 5);
        Desk.due("carry", desk.g.carry(), 4);
        Desk.due("the input", desk.g.count(1), 4);
        Desk.due("it is read", Desk.ask(desk.g::parse), 3);
        desk.g.type(1, '!');
        Desk.due("the input goes on behind it", Desk.ask(desk.g::parse), -5);
        Desk.due("the output does not change with it", desk.output(), "a= 5");
        Desk full = Desk.of("A='!?('.line)*;");
        printed(full, "!" + ".".repeat(80));
        Desk.due("a full output", full.g.carry(), 160);
        Desk.due("is read", Desk.ask(full.g::parse), 3);
        Desk.due("and is full", full.g.type(1, ' '), false);
    }

    private static void bothWays() {
        String[] descriptions = {
            "A=(number? B)~(name* '! C);B='+ (name~number);C='- ('# number|'$);",
            "A='{ (A|B)* '};B=number+9|name|\"a\"|\"b\"|\"ab\" line|\"abz\" blank;",
            "A=(B~C)*;B='- number+5;C=(name~D)?;D='/ A '/;",
        };
        for (int d = 0; d < 6; d++) {
            int read = 0;
            for (long x = 0; x < 300; x++) {
                Desk desk = d < 3 ? Desk.ofSample(d) : Desk.of(descriptions[d - 3]);
                long seed = x * 7919;
                String grown = Desk.ask(() -> desk.g.grow(seed, (int) (seed % 21)));
                if (!grown.startsWith("throws") && !desk.print().startsWith("throws")) {
                    desk.g.keep();
                    desk.g.carry();
                    Desk.due("the same number of nodes", Desk.ask(desk.g::parse), grown);
                    Desk.due("the same tree", Desk.ask(desk.g::compare), 0);
                    read++;
                }
            }
            Desk.due("most are written and read", read > 150, true);
        }
    }
}
