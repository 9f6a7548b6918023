/** Void, starts, follows, height and promise 6, each sentence with an edge in it by a method of its own. */
public final class SetsEdgesTest {
    private static final int STARTS = 0;
    private static final int FOLLOWS = 1;
    private static final int VOID = 2;
    private static final int HEIGHT = 3;

    public static void main(String[] args) throws ReflectiveOperationException {
        Sentences.run(SetsEdgesTest.class);
    }

    /** What rule r of a description has; faults of 5 to 9 don't matter. */
    private static void due(String description, int r, int what, long want) {
        Desk desk = new Desk();
        desk.compile(description);
        Desk.due("rule " + r + ", " + what + " of " + description, Desk.ask(() -> desk.g.rule(r, what)), want);
    }

    /** Of a form F: '! is literal 0 before it, and the rules V, which may be void, and N, which may not, are behind. */
    private static void dueForm(String form, int what, long want) {
        due("A='!;F=" + form + ";V=empty|'!;N='!;", 1, what, want);
    }

    private static void dueVoid(String form, boolean want) {
        dueForm(form, VOID, want ? 1 : 0);
        dueForm("(" + form + ")", VOID, want ? 1 : 0);
    }

    private static void dueStarts(String form, int... kinds) {
        dueForm(form, STARTS, Desk.kinds(kinds));
        dueForm("(" + form + ")", STARTS, Desk.kinds(kinds));
    }

    private static void dueHeight(String form, int want) {
        due("A=" + form + ";B='!;C=B;D=C|'! D;I='! I;V=empty|'!;", 0, HEIGHT, want);
    }

    /** What follows the rule C, which begins with '!, literal 0, by a form of another rule, which no END follows. */
    private static void dueFollows(String form, int... kinds) {
        due("Z='!;C='!;A=" + form + ";", 1, FOLLOWS, Desk.kinds(kinds));
    }

    @Says("3 + n literal n")
    static void kinds() {
        StringBuilder twenty = new StringBuilder("A=");
        for (int n = 0; n < 20; n++) {
            twenty.append('"').append((char) ('a' + n)).append('"').append(n < 19 ? "?" : "");
        }
        due(twenty + ";", 0, STARTS, Desk.kinds(23) - Desk.kinds(3));
        due(twenty + ";B=\"a\";", 1, STARTS, 1L << 3);
        due(twenty + ";B=\"t\";", 1, STARTS, 1L << 22);
    }

    @Says("empty and layout are, number, name and literals are not")
    static void voidParts() {
        for (String part : new String[] {"empty", "blank", "line", "deeper", "back"}) {
            dueVoid(part, true);
        }
        for (String part : new String[] {"number", "number+1", "name", "\"x\"", "'+"}) {
            dueVoid(part, false);
        }
    }

    @Says("many and maybe are")
    static void voidRepeats() {
        for (String part : new String[] {"number", "name", "\"x\"", "'+", "empty", "N", "V", "(name)"}) {
            dueVoid(part + "*", true);
            dueVoid(part + "?", true);
        }
        dueVoid("(name* number)", false);
    }

    @Says("an alternative, or a swapped pair, if all of it is")
    static void voidAlternatives() {
        dueVoid("empty line blank", true);
        dueVoid("empty line name", false);
        dueVoid("name empty line", false);
        dueVoid("empty name line", false);
        dueVoid("name* number? '+*", true);
        dueVoid("empty~line", true);
        dueVoid("name?~number*", true);
        dueVoid("empty~name", false);
        dueVoid("name~empty", false);
        dueVoid("name?~number* '+", false);
    }

    @Says("a choice if some alternative is")
    static void voidChoices() {
        dueVoid("name|empty", true);
        dueVoid("empty|name", true);
        dueVoid("name|number|'+|'-|'*|line", true);
        dueVoid("name|number|'+ empty", false);
    }

    @Says("a use if its rule is, a rule if its form is (of all, the least that may be so)")
    static void voidUses() {
        dueVoid("V", true);
        dueVoid("N", false);
        dueVoid("V V", true);
        dueVoid("V N", false);
        dueVoid("F", false);
        dueVoid("F|F F", false);
        dueVoid("F|empty", true);
        due("A=B;B=C;C=D;D=E;E=F;F=G;G=H;H=I;I=J;J=empty;", 0, VOID, 1);
        due("A=B;B=C;C=D;D=E;E=F;F=G;G=H;H=I;I=J;J='+;", 0, VOID, 0);
        due("J=empty;I=J;H=I;G=H;F=G;E=F;D=E;C=D;B=C;A=B;", 9, VOID, 1);
        due("A=B;B=A;", 0, VOID, 0);
        due("A=B|'+;B=A|empty;", 0, VOID, 1);
    }

    /** H begins with all, so that all but what is asked for is known early, and this comes by the longest way alone. */
    private static final String HUB = "H=A'!|B'!|C'!|D'!|E'!|F'!;";

    @Says("(of all, the least that may be so)")
    static void voidByLongWays() {
        String chain = "A=empty|H'!;B=A|H'!;C=B|H'!;D=C|H'!;E=D|H'!;F=E|H'!;" + HUB;
        due(chain + "G=F|H'!;", 7, VOID, 1);
        due(chain.replace("empty", "'!") + "G=F|H'!;", 7, VOID, 0);
        due(chain + "X=F'+|H'!;Y=X'+|H'!;Z=Y'+|H'!;", 9, STARTS, Desk.kinds(3, 4));
        String turned = "G=F|H'!;F=E|H'!;E=D|H'!;D=C|H'!;C=B|H'!;B=A|H'!;A=empty|H'!;" + HUB;
        due(turned, 0, VOID, 1);
        due(turned.replace("empty", "'!"), 0, VOID, 0);
    }

    @Says("number, name, a literal with its own")
    static void startsOfParts() {
        dueStarts("number", 1);
        dueStarts("number+1", 1);
        dueStarts("name", 2);
        dueStarts("'!", 3);
        dueStarts("'+", 4);
        dueStarts("\"x\"", 4);
        for (String part : new String[] {"empty", "blank", "line", "deeper", "back"}) {
            dueStarts(part);
        }
    }

    @Says("an alternative or a pair with those of what comes first, and, while this may be void, of what comes next")
    static void startsOfAlternatives() {
        dueStarts("name number", 2);
        dueStarts("empty name number", 2);
        dueStarts("name? number '!", 2, 1);
        dueStarts("name* empty number? line '! '+", 2, 1, 3);
        dueStarts("name? number?", 2, 1);
        dueStarts("name~number", 2);
        dueStarts("name?~number '!", 2, 1);
        dueStarts("name?~number? '!", 2, 1, 3);
        dueStarts("empty~number", 1);
        dueStarts("V number", 3, 1);
        dueStarts("N number", 3);
    }

    @Says("a choice with those of all; many, maybe and ( ) with those of what is in them; a use as its rule")
    static void startsOfTheRest() {
        dueStarts("name|number", 2, 1);
        dueStarts("empty|name|'!", 2, 3);
        dueStarts("(name|number)*", 2, 1);
        dueStarts("(name number)?", 2);
        dueStarts("((name)?(number|'!))", 2, 1, 3);
        dueStarts("N", 3);
        dueStarts("V name", 3, 2);
        dueStarts("F");
        dueStarts("F name");
        dueStarts("F|name", 2);
        due("A=B name;B=C|number;C=A|'!;", 0, STARTS, Desk.kinds(1, 3));
        due("A=B name;B=C|number?;C=A|'!;", 0, STARTS, Desk.kinds(1, 2, 3));
    }

    @Says("the starts of what comes behind it in its alternative")
    static void followsBehind() {
        dueFollows("C name", 2);
        dueFollows("C name number", 2);
        dueFollows("C empty line name", 2);
        dueFollows("C name? number", 2, 1);
        dueFollows("C C name", 3, 2);
        dueFollows("C (name|number)", 2, 1);
    }

    @Says("(the second one of a pair comes behind the first)")
    static void followsInPairs() {
        dueFollows("C~name", 2);
        dueFollows("C~name number", 2);
        dueFollows("C~name? number", 2, 1);
        dueFollows("name~C number", 1);
        dueFollows("name~C");
        dueFollows("C~C name", 3, 2);
    }

    @Says("and, if all this may be void, what follows the whole")
    static void followsTheWhole() {
        due("A=C;C='!;", 1, FOLLOWS, Desk.kinds(0));
        due("A=C empty name? number*;C='!;", 1, FOLLOWS, Desk.kinds(0, 1, 2));
        due("A=C empty name? number;C='!;", 1, FOLLOWS, Desk.kinds(1, 2));
        dueFollows("(name C)number", 1);
        dueFollows("((name C)'+?)number", 4, 1);
        dueFollows("((name C)'+)number", 4);
        dueFollows("(name C)? number", 1);
        due("A=B name;B='+ C;C='!;", 2, FOLLOWS, Desk.kinds(2));
        due("A=B name;B='+ D;D=C line;C='!;", 3, FOLLOWS, Desk.kinds(2));
    }

    @Says("in a many its own starts, too")
    static void followsInMany() {
        dueFollows("C*", 3);
        dueFollows("C* name", 3, 2);
        dueFollows("(name C)*", 2);
        dueFollows("(name C)* number", 2, 1);
        dueFollows("(name C '+)*", 4);
        dueFollows("(C name)*", 2);
        dueFollows("(name? C)*", 2, 3);
        dueFollows("C?");
        dueFollows("(name C)?");
        dueFollows("C* C? name", 3, 2);
    }

    @Says("a choice's alternatives are followed by what follows the choice")
    static void followsInChoices() {
        dueFollows("(C|name)number", 1);
        dueFollows("(name|C)number", 1);
        dueFollows("(name C|'+)number", 1);
        dueFollows("(C '+|name)number", 4);
        dueFollows("(C|name)*number", 3, 2, 1);
    }

    @Says("a rule's form by what follows any use of the rule (in whatever rule), and the START by the END")
    static void followsOfRules() {
        due("A='!;", 0, FOLLOWS, Desk.kinds(0));
        due("A='!;B=name;", 1, FOLLOWS, 0);
        due("A='!;B=C name;C=number;D=C '+;", 2, FOLLOWS, Desk.kinds(2, 4));
        due("A='!;B=C;C=number;D=B '+;", 2, FOLLOWS, Desk.kinds(4));
        due("A='( A ')|'.;", 0, FOLLOWS, Desk.kinds(0, 4));
        due("A='.;B=A name;", 0, FOLLOWS, Desk.kinds(0, 2));
        due("A=B;B=C;C=D;D=E;E=F;F=G;G=H;H=I;I=J;J='+;", 9, FOLLOWS, Desk.kinds(0));
        due("J='+;I=J;H=I;G=H;F=G;E=F;D=E;C=D;B=C;A=B name;", 0, FOLLOWS, Desk.kinds(0, 2));
        due("A='.;B='+ C;C='- B;", 1, FOLLOWS, 0);
    }

    @Says("(All are the least sets for which this holds.)")
    static void followsByLongWays() {
        due("A='!;J=I'+;I='.H;H='.G;G='.F;F='.E;E='.D;D='.C;C='.B;B='.;", 9, FOLLOWS, Desk.kinds(4));
        due("A='!;B='.;C='.B;D='.C;E='.D;F='.E;G='.F;H='.G;I='.H;J=I'+;", 1, FOLLOWS, Desk.kinds(5));
        due("A='!;B='.C;C='.B;", 1, FOLLOWS, 0);
        due("A='!;B='.C;C='.B|'.B'+;", 1, FOLLOWS, Desk.kinds(5));
    }

    @Says("of a rule 1 more than that of its form")
    static void heightOfRules() {
        dueHeight("'!", 1);
        dueHeight("B", 2);
        dueHeight("C", 3);
        due("A=B;B=C;C=D;D=E;E=F;F=G;G=H;H=I;I=J;J=empty;", 0, HEIGHT, 10);
        due("A=B;B=C;C=D;D=E;E=F;F=G;G=H;H=I;I=J;J=empty;", 9, HEIGHT, 1);
        due("J='+;I=J;H=I;G=H;F=G;E=F;D=E;C=D;B=C;A=B;", 9, HEIGHT, 10);
    }

    @Says("of a rule 1 more than that of its form")
    static void heightByLongWays() {
        due("J='!;I='!J;H='!I;G='!H;F='!G;E='!F;D='!E;C='!D;B='!C;A='!B;", 9, HEIGHT, 10);
        due("A='!B;B='!C;C='!D;D='!E;E='!F;F='!G;G='!H;H='!I;I='!J;J='!;", 0, HEIGHT, 10);
        due("J='!J;I='!J;H='!I;G='!H;F='!G;E='!F;D='!E;C='!D;B='!C;A='!B;", 9, HEIGHT, -1);
    }

    @Says("a form has that of the alternative with the least")
    static void heightOfForms() {
        dueHeight("C|B|'!", 1);
        dueHeight("C|B", 2);
        dueHeight("B|C", 2);
        dueHeight("I|C", 3);
        dueHeight("D", 4);
        dueHeight("A '!|B", 2);
        dueHeight("(C|B)(C|'!)", 2);
    }

    @Says("an alternative the greatest of its parts'")
    static void heightOfAlternatives() {
        dueHeight("'! B C", 3);
        dueHeight("C B '!", 3);
        dueHeight("B~C", 3);
        dueHeight("C~B", 3);
        dueHeight("B (C) '!", 3);
        dueHeight("'! (B|C) '!", 2);
    }

    @Says("many, maybe and all parts but uses and ( ) have 0")
    static void heightOfParts() {
        String[] parts = {"number", "name", "empty", "blank", "line", "deeper", "back", "\"x\"", "'!", "C*", "C?", "I*"};
        for (String part : parts) {
            dueHeight(part, 1);
            dueHeight("(" + part + ")", 1);
        }
        dueHeight("(B C)*", 1);
        dueHeight("(I)?", 1);
        dueHeight("(C)", 3);
        dueHeight("((B))", 2);
    }

    @Says("infinite, where it cannot be otherwise")
    static void heightInfinite() {
        dueHeight("I", -1);
        dueHeight("'! A", -1);
        dueHeight("A", -1);
        dueHeight("I|A", -1);
        dueHeight("(I|'! A)", -1);
        dueHeight("B I", -1);
        dueHeight("A|'!", 1);
        dueHeight("'! A|C", 3);
        due("A='+ B;B='- C;C='! A;", 1, HEIGHT, -1);
        due("A='+ B;B='- C;C='! A|'.;", 1, HEIGHT, 2);
        due("A='+ B;B='- C;C='! A|'.;", 0, HEIGHT, 3);
    }

    @Says("Promise 6: Of rule r (from 0) of the description in use")
    static void ruleInUse() {
        Desk desk = Desk.of("A='+ B;B=name?;");
        desk.g.clear(0);
        desk.write(0, "A=number;");
        Desk.due("starts of rule 0", desk.g.rule(0, STARTS), Desk.kinds(3));
        Desk.due("starts of rule 1", desk.g.rule(1, STARTS), Desk.kinds(2));
        Desk.due("what follows rule 1", desk.g.rule(1, FOLLOWS), Desk.kinds(0));
        Desk.due("whether rule 0 may be void", desk.g.rule(0, VOID), 0);
        Desk.due("whether rule 1 may be void", desk.g.rule(1, VOID), 1);
        Desk.due("height of rule 0", desk.g.rule(0, HEIGHT), 2);
        Desk.due("height of rule 1", desk.g.rule(1, HEIGHT), 1);
        desk.g.compile();
        Desk.due("starts of the new rule 0", desk.g.rule(0, STARTS), Desk.kinds(1));
        Desk.due("there is no rule 1 then", Desk.ask(() -> desk.g.rule(1, STARTS)), Desk.OUT);
    }

    @Says("Promise 6: if this has none of the faults 1 to 4 (others don't matter)")
    static void ruleWithOtherFaults() {
        String[] checked = {"A=A '+;", "A='+ A;", "A=empty*'+;", "A='+|'+;", "A='+*'+;"};
        for (int k = 0; k < checked.length; k++) {
            Desk desk = new Desk();
            Desk.due("fault", desk.compile(checked[k]) % 16, k + 5);
            for (int what = 0; what < 4; what++) {
                int asked = what;
                String answer = Desk.ask(() -> desk.g.rule(0, asked));
                Desk.due("rule 0, " + what + " answers", answer.startsWith("throws"), false);
            }
            Desk.due("no rule 1", Desk.ask(() -> desk.g.rule(1, 0)), Desk.OUT);
            Desk.due("nothing else", Desk.ask(() -> desk.g.rule(0, 4)), Desk.ARGUMENT);
        }
    }

    @Says("Promise 6: IllegalStateException when there is no such description")
    static void ruleOfNoDescription() {
        String[] faulty = {"", "A=name;B=", "A=name;A=name;", "A='+|'-|'*|'/|'.|':|'!;", "A=name B;"};
        for (String description : faulty) {
            Desk desk = Desk.of("A=name;");
            desk.compile(description);
            for (int r : new int[] {0, -1, 1, 99}) {
                Desk.due("rule " + r, Desk.ask(() -> desk.g.rule(r, 0)), Desk.STATE);
                Desk.due("rule " + r + ", 4", Desk.ask(() -> desk.g.rule(r, 4)), Desk.STATE);
            }
        }
        TwoWayGrammar g = new TwoWayGrammar();
        g.sample(0);
        Desk.due("before any compile", Desk.ask(() -> g.rule(0, 0)), Desk.STATE);
    }

    @Says("Promise 6: else IndexOutOfBoundsException when there is no such rule")
    static void ruleOfNone() {
        for (int rules = 1; rules <= 10; rules++) {
            StringBuilder all = new StringBuilder();
            for (int r = 0; r < rules; r++) {
                all.append((char) ('A' + r)).append("=name;");
            }
            Desk desk = Desk.of(all.toString());
            int last = rules - 1;
            Desk.due("the last rule", Desk.ask(() -> desk.g.rule(last, 3)), 1);
            for (int r : new int[] {-1, rules, rules + 1, 60, Integer.MIN_VALUE, Integer.MAX_VALUE}) {
                Desk.due("rule " + r, Desk.ask(() -> desk.g.rule(r, 0)), Desk.OUT);
                Desk.due("rule " + r + ", -1", Desk.ask(() -> desk.g.rule(r, -1)), Desk.OUT);
            }
        }
    }

    @Says("Promise 6: else IllegalArgumentException when what is none of these")
    static void ruleOfOthers() {
        Desk desk = Desk.of("A=name B;B=number;");
        for (int what : new int[] {-1, 4, 5, -2, Integer.MIN_VALUE, Integer.MAX_VALUE}) {
            for (int r = 0; r < 2; r++) {
                int asked = r;
                Desk.due("rule " + r + ", " + what, Desk.ask(() -> desk.g.rule(asked, what)), Desk.ARGUMENT);
            }
        }
    }
}
