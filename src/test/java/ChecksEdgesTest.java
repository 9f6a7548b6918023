/** The checks 5 to 9 and promise 5, each sentence with an edge in it by a method of its own. */
public final class ChecksEdgesTest {
    public static void main(String[] args) throws ReflectiveOperationException {
        Sentences.run(ChecksEdgesTest.class);
    }

    @Says("5 a rule that may begin with a use of itself")
    static void beginsWithItself() {
        Desk.dueFound("A=A;", "5@0");
        Desk.dueFound("A=A '+|'-;", "5@0");
        Desk.dueFound("A='-|A '+;", "5@0");
        Desk.dueFound("A=(A '+)|'-;", "5@0");
        Desk.dueFound("A=(A '+)?'-;", "5@0");
        Desk.dueFound("A=(A '+)*'-;", "5@0");
        Desk.dueFound("A=A~'+|'-;", "5@0");
        Desk.dueFound("A='- A|'+;", "good");
        Desk.dueFound("A='-(A)?'+;", "good");
        Desk.dueFound("A='+;B=B|'-;", "5@5");
    }

    @Says("(in it, or in what it may begin with a use of; where what is before may be void)")
    static void beginsWithOthers() {
        Desk.dueFound("A=B;B=A|'+;", "5@0");
        Desk.dueFound("A=B;B=C;C=D;D=E;E=F;F=G;G=H;H=I;I=J;J=A|'+;", "5@0");
        Desk.dueFound("A='+ B;B=C;C=B|'-;", "5@7");
        Desk.dueFound("A=B '+;B=C;C=C '-|'.;", "5@11");
        Desk.dueFound("A=J|'+;B=A|'+;C=B|'+;D=C|'+;E=D|'+;F=E|'+;G=F|'+;H=G|'+;I=H|'+;J=I|'+;", "5@0");
        Desk.dueFound("A=B|'+;B=C|'+;C=D|'+;D=E|'+;E=F|'+;F=G|'+;G=H|'+;H=I|'+;I=J|'+;J=A|'+;", "5@0");
        Desk.dueFound("A=empty A|'+;", "5@0");
        Desk.dueFound("A=line deeper A|'+;", "5@0");
        Desk.dueFound("A=name? number* A;", "5@0");
        Desk.dueFound("A=name?~A;", "5@0");
        Desk.dueFound("A=V A|'+;V=empty|'-;", "5@0");
        Desk.dueFound("A=N A|'+;N='-;", "good");
        Desk.dueFound("A=name A|'+;", "good");
        Desk.dueFound("A=B|'+;B='- A;", "good");
        Desk.dueFound("A=B '+;B='- C;C='. B|'!;", "good");
    }

    @Says("6 a rule with an infinite height, both at the name in front of =")
    static void infiniteHeight() {
        Desk.dueFound("A='+ A;", "6@0");
        Desk.dueFound(" \nA ='+ A;", "6@2");
        Desk.dueFound("A='+;  B ='- B;", "6@7");
        Desk.dueFound("A='+;  B =B|'-;", "5@7");
        Desk.dueFound("A='+;B='- C;C='. B;", "6@5");
        Desk.dueFound("A='+ (A|'- A);", "6@0");
        Desk.dueFound("A='+ (A|'-);", "good");
        Desk.dueFound("A='+ A?;", "good");
        Desk.dueFound("A='+ A*'-;", "good");
        Desk.dueFound("A='+ A|'- A|'.;", "good");
        Desk.dueFound("A=B;B='+ B;", "6@0");
        Desk.dueFound("A='. B?;B='+ B;", "6@8");
    }

    @Says("7 a many or maybe of what may be void, at its * or ?")
    static void repeatOfVoid() {
        for (String part : new String[] {"empty", "blank", "line", "deeper", "back"}) {
            Desk.dueFound("A=" + part + " *'+;", "7@" + (3 + part.length()));
            Desk.dueFound("A=" + part + " ?'+;", "7@" + (3 + part.length()));
        }
        Desk.dueFound("A=(empty line)*;", "7@14");
        Desk.dueFound("A=(empty~line)?;", "7@14");
        Desk.dueFound("A=('+|empty)?;", "7@12");
        Desk.dueFound("A=('+*)?;", "7@7");
        Desk.dueFound("A=('+?)?;", "7@7");
        Desk.dueFound("A=V*;V=empty|'+;", "7@3");
        Desk.dueFound("A=V?;V=W;W=line;", "7@3");
        Desk.dueFound("A=('+ empty)*;", "good");
        Desk.dueFound("A=('+*'-)?;", "good");
        Desk.dueFound("A='+;B=line*;", "7@11");
    }

    @Says("8 an alternative that AGREES with one before it, at the | in front of it: they have a director in common")
    static void alternativesAgree() {
        Desk.dueFound("A='+|'+;", "8@4");
        Desk.dueFound("A=name \n|name;", "8@8");
        Desk.dueFound("A='+|'-|'+;", "8@7");
        Desk.dueFound("A='+|'-|'*|'/|'.|'+;", "8@16");
        Desk.dueFound("A='+|'-|'-|'+;", "8@7");
        Desk.dueFound("A='+ name|'+ number;", "8@9");
        Desk.dueFound("A=name? '+|'+;", "8@10");
        Desk.dueFound("A='+|name? '+;", "8@4");
        Desk.dueFound("A=('+|'-)|('.|'-);", "8@9");
        Desk.dueFound("A=B|C;B='+;C='+;", "8@3");
        Desk.dueFound("A=('+|'+)'-;", "8@5");
        Desk.dueFound("A='!;B='+|'+;", "8@9");
        Desk.dueFound("A=number|number+1;", "8@8");
        Desk.dueFound("A=name|\"a\"|number|'-|'+;", "good");
    }

    @Says("the DIRECTORS being the starts and, if it may be void, what follows")
    static void directors() {
        Desk.dueFound("A=('+|empty)'+;", "8@5");
        Desk.dueFound("A=(empty|'+)'+;", "8@8");
        Desk.dueFound("A=('+|empty)'-;", "good");
        Desk.dueFound("A=('+|'-?)'+;", "8@5");
        Desk.dueFound("A=('+|'-)'+;", "good");
        Desk.dueFound("A=empty|line;", "8@7");
        Desk.dueFound("A='+|empty|'-|line;", "8@13");
        Desk.dueFound("A='!;B=empty|line;", "good");
        Desk.dueFound("A=B'+;B='+|empty;", "8@10");
        Desk.dueFound("A=('+|empty)'-? '+;", "8@5");
        Desk.dueFound("A='. ('+|empty)|'- A '+;", "8@8");
        Desk.dueFound("A=(('+|empty)'-)*'.;", "good");
        Desk.dueFound("A=('-('+|empty))*'+;", "8@8");
        Desk.dueFound("A=('+('+|empty))*;", "8@8");
    }

    @Says("9 a many or maybe whose starts have something in common with what follows it, at its * or ?")
    static void repeatMeetsFollows() {
        for (String mark : new String[] {"*", "?"}) {
            Desk.dueFound("A='+" + mark + "'+;", "9@4");
            Desk.dueFound("A='+ \n" + mark + "'+;", "9@6");
            Desk.dueFound("A='+" + mark + "'-;", "good");
            Desk.dueFound("A='+" + mark + "~'+;", "9@4");
            Desk.dueFound("A='+~'+" + mark + ";", "good");
            Desk.dueFound("A=('+|'-)" + mark + "'-;", "9@9");
            Desk.dueFound("A=('+ '-)" + mark + "'-;", "good");
            Desk.dueFound("A='+" + mark + " line'-? '+;", "9@4");
            Desk.dueFound("A='+" + mark + "('-|'+);", "9@4");
            Desk.dueFound("A=B'+;B='-'+" + mark + ";", "9@12");
            Desk.dueFound("A=('-'+" + mark + ")'+;", "9@7");
            Desk.dueFound("A='!;B='+" + mark + "'+;", "9@9");
            Desk.dueFound("A='+" + mark + ";", "good");
        }
        Desk.dueFound("A=('+ '+?)*;", "9@8");
        Desk.dueFound("A=('+ '+?)?;", "good");
        Desk.dueFound("A=('+ '-*)*;", "good");
        Desk.dueFound("A='- A? '.;B=A '-;", "good");
        Desk.dueFound("A='- A? ;B=A '-;", "9@6");
    }

    @Says("The first one by place, then by number, counts")
    static void firstOfChecks() {
        Desk.dueFound("A=A '+;", "5@0");
        Desk.dueFound("A=A|A;", "5@0");
        Desk.dueFound("A=B*name;B=name?;", "7@3");
        Desk.dueFound("A='+|'+;B=B;", "8@4");
        Desk.dueFound("A='+*'+|'+;", "9@4");
        Desk.dueFound("A='+|'+*'+;", "8@4");
        Desk.dueFound("A='-;B='+ B|'+ B;", "6@5");
        Desk.dueFound("A=line*'+*'+;", "7@6");
        Desk.dueFound("A='+*'+ line*;", "9@4");
        Desk.dueFound("A='+*'+;B='- B;", "9@4");
        Desk.dueFound("A=('-|'-)*|'.;B=B;", "8@5");
        Desk.dueFound("A='! B;B='+ A;C=C;", "6@0");
    }

    @Says("A description without those faults is CHECKED")
    static void checkedLast() {
        Desk.dueFound("A=A;B=", "1@6");
        Desk.dueFound("A=A;A=name;", "2@4");
        Desk.dueFound("A=A|((((('+)))));", "3@8");
        Desk.dueFound("A=A|B;", "4@4");
        Desk.dueFound("A='+*'+|B;", "4@8");
    }

    @Says("Without one, the description is GOOD")
    static void goodOnes() {
        for (String description : new String[] {"A=empty;", "A=line;", "A=name;", "A=name*;", "A='+?;", "A=(((('+))));"}) {
            Desk desk = new Desk();
            Desk.due("compile of " + description, desk.compile(description), 0);
            Desk.due("it can be grown by", Desk.ask(() -> desk.g.grow(1, 0)).startsWith("throws"), false);
        }
    }

    @Says("Promise 5: which is the one in use then (as it is now, till the next compile())")
    static void inUse() {
        Desk desk = Desk.of("A=name '!;");
        desk.g.type(0, '#');
        Desk.due("typed behind it", desk.parse("a!"), 2);
        desk.g.clear(0);
        Desk.due("cleared", desk.parse("b!"), 2);
        desk.g.sample(1);
        Desk.due("a sample in its place", desk.parse("c!"), 2);
        Desk.due("printed by the one in use", desk.print(), "c!");
        Desk.due("grown by the one in use", Desk.ask(() -> desk.g.grow(3, 3)), 2);
        Desk.due("compile", desk.g.compile(), 0);
        Desk.due("then the sample is in use", desk.parse("c!"), -1);
        Desk.due("and parses", desk.parse("{}"), 2);
    }

    @Says("Promise 5: without a tree and with nothing kept")
    static void withoutTree() {
        for (String next : new String[] {"A=name;", "A=name", "A=A;"}) {
            Desk desk = Desk.of("A=name;");
            desk.parse("a");
            desk.g.keep();
            desk.print();
            desk.compile(next);
            Desk.due("no tree behind " + next, desk.g.count(5), 0);
            Desk.due("nothing kept", desk.g.count(6), 0);
            Desk.due("no node", Desk.ask(() -> desk.g.node(0, 0)), Desk.ELEMENT);
            Desk.due("nothing to set", Desk.ask(() -> desk.g.set(1, 1)), Desk.ELEMENT);
            Desk.due("nothing to print", Desk.ask(desk.g::print), Desk.STATE);
            Desk.due("nothing to keep", desk.g.keep(), false);
            Desk.due("nothing to compare", Desk.ask(desk.g::compare), Desk.STATE);
            Desk.due("the output stays", desk.output(), "a");
            Desk.due("the input stays", desk.g.count(1), 1);
        }
        Desk again = Desk.of("A=name;");
        again.parse("a");
        again.g.keep();
        Desk.due("the same text once more", again.g.compile(), 0);
        Desk.due("no tree", again.g.count(5), 0);
        again.parse("b");
        Desk.due("a tree, but nothing kept", Desk.ask(again.g::compare), Desk.STATE);
    }

    @Says("Promise 5: 0 if it is good, else the fault + 16 * its place")
    static void answers() {
        String[] faulty = {"A=", "A=name;A", "A=((((('+)))));", "A=B;", " A=A;", " A='+ A;", "A=line*;", "A='+|'+;", "A='+*'+;"};
        int[] places = {2, 7, 6, 2, 1, 1, 6, 4, 4};
        for (int k = 0; k < faulty.length; k++) {
            Desk.due("compile of " + faulty[k], new Desk().compile(faulty[k]), k + 1 + 16 * places[k]);
        }
        Desk.due("at place 0", new Desk().compile(""), 1);
        Desk.due("at place 240", new Desk().compile("A=name" + " ".repeat(234)), 1 + 16 * 240);
        Desk.due("good", new Desk().compile("A=name;"), 0);
    }

    /** All that can be seen of a description in use: its counts and rules, and trees made by it. */
    private static String seen(Desk desk, String description) {
        StringBuilder all = new StringBuilder().append(desk.compile(description));
        for (int what = 3; what <= 6; what++) {
            all.append(' ').append(desk.g.count(what));
        }
        for (int r = 0; r < 3; r++) {
            for (int what = 0; what < 4; what++) {
                int rule = r;
                int asked = what;
                all.append(' ').append(Desk.ask(() -> desk.g.rule(rule, asked)));
            }
        }
        for (String input : new String[] {"", "do", "a 1", "+ 1"}) {
            all.append(' ').append(desk.parse(input));
        }
        for (long x : new long[] {1, 1L << 40}) {
            all.append(' ').append(Desk.ask(() -> desk.g.grow(x, 6)));
            all.append(' ').append(desk.g.count(5) == 0 ? "" : desk.g.node(desk.g.count(5) - 1, 1));
            all.append(' ').append(Desk.ask(desk.g::print));
        }
        return all.toString();
    }

    @Says("Promise 5: Reads and checks the description")
    static void nothingOfOneBefore() {
        String[] descriptions = {
            "A=name number;", "A=name~number;", "A=empty;", "A=A;", "A=B;B=A|'+;", "A=B;B=B|'+;", "A='+ A|number+9 number;",
            "A=\"do\"|name~(number+3);B=A*;C=empty;", "A=('+|'-)(number|name)?;", "A='- A;B=name|name;", "A=(name number)*;",
            "A=", "A=B;", "A=B C;B=line;C=deeper number?;", "A=((((name?))))((((number*))));", "A=name?~number?'+?;",
        };
        for (String before : descriptions) {
            for (String description : descriptions) {
                Desk used = new Desk();
                seen(used, before);
                Desk.due(description + " behind " + before, seen(used, description), seen(new Desk(), description));
            }
        }
    }

    @Says("Promise 5: till the next compile()")
    static void manyTimes() {
        Desk desk = new Desk();
        desk.write(0, "A=" + "('+|'-)".repeat(20) + ";");
        for (int n = 0; n < 300; n++) {
            Desk.due("compile for the time " + n, desk.g.compile(), 0);
        }
        Desk.due("parse by the last", desk.parse("+-".repeat(10)), 21);
        Desk.due("its last node", desk.g.node(20, 1), 1);
    }
}
