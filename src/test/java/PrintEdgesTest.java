/** Printing and the promises 11 and 12, each sentence with an edge in it by a method of its own. */
public final class PrintEdgesTest {
    public static void main(String[] args) throws ReflectiveOperationException {
        Sentences.run(PrintEdgesTest.class);
    }

    @Says("PRINTING writes the tokens of a tree, in the order of the text")
    static void order() {
        Desk.dueWritten("A=name~number '!;", "a 1 !", "a 1!");
        Desk.dueWritten("A=(name~number)~('!~\"do\");", "a 1 ! do", "a 1!do");
        Desk.dueWritten("A=(name*~number)~(name|'!);", "a b 1 c", "a b 1 c");
        Desk.dueWritten("A=B~C;B=name~'.;C='!~number;", "a . ! 1", "a.!1");
        Desk.dueWritten("A=(B~number)*;B='-|name~(number|'.);", "- 1 a 2 3 a . 4", "-1 a 2 3 a.4");
        Desk.dueWritten("A=(name '.)~(name number)name;", "a.b 1 c", "a.b 1 c");
        Desk.dueWritten("A='!~'#;", "!#", "!#");
    }

    @Says("numbers without 0 in front")
    static void zeros() {
        String[] typed = {"0", "00", "0000", "1", "01", "0009", "10", "0010", "100", "0100", "101", "1000", "1001", "9999"};
        String[] due = {"0", "0", "0", "1", "1", "9", "10", "10", "100", "100", "101", "1000", "1001", "9999"};
        for (int k = 0; k < typed.length; k++) {
            Desk.dueWritten("A=number;", typed[k], due[k]);
            Desk.dueWritten("A=number+9;", typed[k], due[k]);
        }
    }

    @Says("a digit behind + taken off again, modulo 10000")
    static void takenOff() {
        int[] values = {0, 1, 8, 9, 10, 9999};
        String[] one = {"9999", "0", "7", "8", "9", "9998"};
        String[] nine = {"9991", "9992", "9999", "0", "1", "9990"};
        for (int k = 0; k < values.length; k++) {
            Desk desk = Desk.of("A=number+1 '.number+9 '.number+0 '.number;");
            desk.parse("5.5.5.5");
            for (int node = 1; node <= 4; node++) {
                desk.g.set(node, values[k]);
            }
            String want = one[k] + "." + nine[k] + "." + values[k] + "." + values[k];
            Desk.due("value " + values[k], desk.print(), want);
        }
    }

    @Says("deeper and back make the LEVEL (at first 0) one more, or one less, but not below 0")
    static void level() {
        Desk.dueWritten("A='!line'#;", "!#", "!\n#");
        Desk.dueWritten("A='!deeper line'#;", "!#", "!\n  #");
        Desk.dueWritten("A='!deeper deeper line'#;", "!#", "!\n    #");
        Desk.dueWritten("A='!deeper deeper back line'#;", "!#", "!\n  #");
        Desk.dueWritten("A='!deeper back line'#;", "!#", "!\n#");
        Desk.dueWritten("A='!back line'#;", "!#", "!\n#");
        Desk.dueWritten("A='!back back deeper line'#;", "!#", "!\n  #");
        Desk.dueWritten("A='!deeper back back deeper line'#;", "!#", "!\n  #");
        Desk.dueWritten("A=deeper'!'#line'$back line'%;", "!#$%", "!#\n  $\n%");
        Desk.dueWritten("A=('!deeper)*line'#;", "!".repeat(40) + "#", "!".repeat(40) + "\n" + " ".repeat(80) + "#");
        Desk.dueWritten("A='!(deeper B line '-)?line'#;B='+;", "!+-#", "!+\n  -\n  #");
        Desk again = Desk.of("A='!deeper line'#;");
        again.parse("!#");
        again.print();
        Desk.due("at first 0 each time", again.print(), "!\n  #");
    }

    @Says("if a line came between, a 10 and then two blanks (32) for each level that there is then")
    static void lines() {
        Desk.dueWritten("A=name line name;", "a b", "a\nb");
        Desk.dueWritten("A=name line line name;", "a b", "a\nb");
        Desk.dueWritten("A=name line blank name;", "a b", "a\nb");
        Desk.dueWritten("A=name blank line blank name;", "a b", "a\nb");
        Desk.dueWritten("A=name empty line empty name;", "a b", "a\nb");
        Desk.dueWritten("A='!(line '#)*;", "!##", "!\n#\n#");
        Desk.dueWritten("A=name(line)(blank)B name;B=deeper;", "a b", "a\n  b");
        Desk.dueWritten("A=name line name name;", "a b c", "a\nb c");
    }

    @Says("for each level that there is then")
    static void levelOfLines() {
        Desk.dueWritten("A='!line deeper'#;", "!#", "!\n  #");
        Desk.dueWritten("A='!deeper line back'#;", "!#", "!\n#");
        Desk.dueWritten("A='!deeper line back'#line'$;", "!#$", "!\n#\n$");
        Desk.dueWritten("A='!line deeper line deeper'#;", "!#", "!\n    #");
    }

    @Says("else, if a blank came, a blank")
    static void blanks() {
        Desk.dueWritten("A='!blank'#;", "!#", "! #");
        Desk.dueWritten("A='!blank blank'#;", "!#", "! #");
        Desk.dueWritten("A=name blank name;", "a b", "a b");
        Desk.dueWritten("A=name blank'#;", "a#", "a #");
        Desk.dueWritten("A='!blank number;", "!1", "! 1");
        Desk.dueWritten("A='!deeper blank'#'$;", "!#$", "! #$");
        Desk.dueWritten("A='!(blank)(empty)B'#;B=blank;", "!#", "! #");
    }

    @Says("else a blank, if both the last character before and the first one behind are letters or digits; else nothing")
    static void between() {
        String[] words = {"name", "number", "\"do\""};
        String[] tokens = {"z", "9", "do"};
        String[] texts = {"a", "0", "do"};
        for (int before = 0; before < 3; before++) {
            for (int behind = 0; behind < 3; behind++) {
                String form = words[before] + " deeper back empty " + words[behind];
                Desk.dueWritten("A=" + form + ";", tokens[before] + " " + texts[behind], tokens[before] + " " + texts[behind]);
            }
        }
        for (int c = 33; c <= 126; c++) {
            boolean sign = !Character.isLetterOrDigit(c);
            for (int k = 0; sign && k < 3; k++) {
                String description = "A=" + words[k] + "'" + (char) c + words[k] + ";";
                Desk.dueWritten(description, texts[k] + " " + (char) c + " " + texts[k], texts[k] + (char) c + texts[k]);
            }
            if (sign) {
                Desk.dueWritten("A='" + (char) c + "'" + (char) c + ";", (char) c + " " + (char) c, "" + (char) c + (char) c);
            }
        }
    }

    @Says("(Nothing stands ahead of the first and behind the last token.)")
    static void ends() {
        Desk.dueWritten("A=line name;", "a", "a");
        Desk.dueWritten("A=blank name;", "a", "a");
        Desk.dueWritten("A=deeper line blank name;", "a", "a");
        Desk.dueWritten("A=name line;", "a", "a");
        Desk.dueWritten("A=name blank;", "a", "a");
        Desk.dueWritten("A=line blank name deeper blank line;", "a", "a");
        Desk.dueWritten("A=line name name;", "a b", "a b");
        Desk.dueWritten("A=line;", "", "");
        Desk.dueWritten("A=blank name?line;", "", "");
    }

    @Says("Promise 11: Prints the tree to the output: how many characters")
    static void printAnswers() {
        Desk desk = Desk.of("A=name*;");
        desk.parse(" abc  de ");
        Desk.due("print", desk.g.print(), 6);
        Desk.due("the output", desk.output(), "abc de");
        Desk.due("print again", desk.g.print(), 6);
        Desk.due("the same output", desk.output(), "abc de");
        Desk.due("the tree stays", desk.nodes(), "1:0 5:2 3:" + Desk.letters("abc") + " 3:" + Desk.letters("de"));
        Desk.due("the input stays", desk.g.count(1), 9);
        desk.parse("x");
        Desk.due("the output before a print", desk.output(), "abc de");
        Desk.due("a shorter one", desk.g.print(), 1);
        Desk.due("takes its place", desk.output(), "x");
        desk.parse("");
        Desk.due("a tree without tokens", desk.g.print(), 0);
        Desk.due("an empty output", desk.g.count(2), 0);
    }

    @Says("Promise 11: IllegalStateException when there is no tree")
    static void printOfNone() {
        TwoWayGrammar g = new TwoWayGrammar();
        Desk.due("a new object", Desk.ask(g::print), Desk.STATE);
        Desk desk = Desk.of("A=name;");
        Desk.due("before a tree", Desk.ask(desk.g::print), Desk.STATE);
        desk.parse("1");
        Desk.due("behind a fault", Desk.ask(desk.g::print), Desk.STATE);
        desk.parse("a");
        Desk.due("with a tree", Desk.ask(desk.g::print), 1);
        desk.g.compile();
        Desk.due("behind compile", Desk.ask(desk.g::print), Desk.STATE);
        Desk.due("the output before stays", desk.output(), "a");
    }

    /** By this form a dot and a line have two characters of the output, so that it can be longer than the input. */
    private static final String DOTS = "('.line)*";

    private static void dueLength(String description, String input, Object want) {
        Desk desk = Desk.of(description);
        desk.parse(input);
        Desk.due(input + " printed by " + description, Desk.ask(desk.g::print), want);
    }

    @Says("Promise 11: else UnsupportedOperationException when they would be more than 160")
    static void tooLong() {
        dueLength("A=" + DOTS + ";", ".".repeat(80), 159);
        dueLength("A=" + DOTS + "'!;", ".".repeat(79) + "!", 159);
        dueLength("A='!?" + DOTS + ";", "!" + ".".repeat(80), 160);
        dueLength("A=" + DOTS + ";", ".".repeat(81), Desk.LIMIT);
        dueLength("A=" + DOTS + "'!'!;", ".".repeat(79) + "!!", 160);
        dueLength("A=" + DOTS + "'!'!'!;", ".".repeat(79) + "!!!", Desk.LIMIT);
        dueLength("A=" + DOTS + "name;", ".".repeat(77) + "abcdef", 160);
        dueLength("A='!" + DOTS + "name;", "!" + ".".repeat(77) + "abcdef", Desk.LIMIT);
        dueLength("A='!" + DOTS + "name;", "!" + ".".repeat(77) + "abcde", 160);
        dueLength("A=" + DOTS + "number;", ".".repeat(78) + "9999", 160);
        dueLength("A='!" + DOTS + "number;", "!" + ".".repeat(78) + "1000", Desk.LIMIT);
        dueLength("A='!" + DOTS + "number;", "!" + ".".repeat(78) + "0999", 160);
        dueLength("A=" + DOTS + "\"abcd\";", ".".repeat(78) + "abcd", 160);
        dueLength("A=" + DOTS + "\"abcde\";", ".".repeat(78) + "abcde", Desk.LIMIT);
        dueLength("A=" + DOTS + "'!blank'!;", ".".repeat(78) + "!!", 159);
        dueLength("A=" + DOTS + "'!blank'!blank'!;", ".".repeat(78) + "!!!", Desk.LIMIT);
        dueLength("A=" + DOTS + "name name;", ".".repeat(78) + "ab c", 160);
        dueLength("A=" + DOTS + "name name;", ".".repeat(78) + "ab cd", Desk.LIMIT);
        dueLength("A=('.deeper)*line'!;", ".".repeat(52) + "!", 158);
        dueLength("A=('.deeper)*'#'#line'!;", ".".repeat(52) + "##!", 160);
        dueLength("A=('.deeper)*'#'#'#line'!;", ".".repeat(52) + "###!", Desk.LIMIT);
        dueLength("A=('.deeper)*line'!;", ".".repeat(53) + "!", Desk.LIMIT);
    }

    @Says("Promise 11: they would be more than 160")
    static void layoutAtTheEnd() {
        dueLength("A='!" + DOTS + "line blank deeper;", "!" + ".".repeat(80), 160);
        dueLength("A='!" + DOTS + "line empty name?;", "!" + ".".repeat(80), 160);
    }

    @Says("Promise 11: (the output before stays)")
    static void tooLongLeavesOutput() {
        Desk desk = Desk.of("A=" + DOTS + ";");
        desk.parse(".".repeat(81));
        Desk.due("too long", Desk.ask(desk.g::print), Desk.LIMIT);
        Desk.due("no output before", desk.g.count(2), 0);
        Desk.due("no character of it", Desk.ask(() -> desk.g.output(0)), Desk.OUT);
        desk.parse("..");
        desk.g.print();
        desk.parse(".".repeat(81));
        Desk.due("too long again", Desk.ask(desk.g::print), Desk.LIMIT);
        Desk.due("the output before", desk.output(), ".\n.");
        Desk.due("the tree stays", desk.g.node(1, 1), 81);
        Desk.due("carry of the output before", desk.g.carry(), 3);
    }

    @Says("Promise 12: Character k of the output")
    static void outputAnswers() {
        Desk desk = Desk.of("A=name deeper line name'~;");
        desk.parse("a b ~");
        desk.g.print();
        char[] due = {'a', '\n', ' ', ' ', 'b', '~'};
        for (int k = 0; k < due.length; k++) {
            Desk.due("character " + k, (int) desk.g.output(k), (int) due[k]);
        }
        Desk full = Desk.of("A='!" + DOTS + ";");
        full.parse("!" + ".".repeat(80));
        full.g.print();
        Desk.due("the first of 160", full.g.output(0), '!');
        Desk.due("the last of 160", full.g.output(159), '.');
        Desk.due("one behind the last", Desk.ask(() -> full.g.output(160)), Desk.OUT);
    }

    @Says("Promise 12: IndexOutOfBoundsException when there is none")
    static void outputOfNone() {
        TwoWayGrammar g = new TwoWayGrammar();
        Desk desk = Desk.of("A=name*;");
        desk.parse("abc def");
        desk.g.print();
        desk.parse("xy");
        desk.g.print();
        for (int k : new int[] {-1, 2, 3, 6, 7, 159, 160, Integer.MIN_VALUE, Integer.MAX_VALUE}) {
            Desk.due("output " + k, Desk.ask(() -> desk.g.output(k)), Desk.OUT);
            Desk.due("output " + k + " of a new object", Desk.ask(() -> g.output(k)), Desk.OUT);
        }
        Desk.due("the last one", desk.g.output(1), 'y');
        desk.parse("");
        desk.g.print();
        Desk.due("output 0 of an empty one", Desk.ask(() -> desk.g.output(0)), Desk.OUT);
    }

    @Says("trees are made, changed and become texts in a normal form, which are read as the same trees")
    static void readAgain() {
        String[] descriptions = {
            "A=(name~number)*'!?;", "A='( A* ')|number+9 line|name blank;", "A=\"a\"B|\"b\"~B;B=name?~(number|'.);",
        };
        int read = 0;
        for (String description : descriptions) {
            for (long x = 0; x < 100; x++) {
                Desk desk = Desk.of(description);
                long seed = x * 0x9E3779B97F4A7C15L;
                String grown = Desk.ask(() -> desk.g.grow(seed, (int) (seed >>> 60)));
                if (!grown.startsWith("throws") && !Desk.ask(desk.g::print).startsWith("throws")) {
                    desk.g.keep();
                    desk.g.carry();
                    Desk.due("nodes of " + description + " by " + x, Desk.ask(desk.g::parse), grown);
                    Desk.due("the tree of " + description + " by " + x, desk.g.compare(), 0);
                    read++;
                }
            }
        }
        Desk.due("most were read", read > 200, true);
    }
}
