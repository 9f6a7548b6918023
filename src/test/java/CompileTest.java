/** Promises 5 and 6: compile and rule, with the faults 1 to 9 and the sets. */
public final class CompileTest {
    private static final String SIGNS = "!\"#$%&'()*+,-./:;<=>?@";

    public static void main(String[] args) {
        tokens();
        rules();
        tooMany();
        missing();
        recursion();
        voids();
        choices();
        follows();
        inUse();
        samples();
        sets();
        wrongCalls();
        Desk.end();
    }

    /** The fault is due at a place; 0 is no fault. */
    private static void fault(String description, int number, int place) {
        Desk desk = new Desk();
        Desk.due("compile of " + description, desk.compile(description), number == 0 ? 0 : number + 16 * place);
        boolean read = number == 0 || number > 4;
        Desk.due("rule of " + description, Desk.ask(() -> desk.g.rule(0, 0)).startsWith("throws"), !read);
        Desk.due("rules of " + description, desk.g.count(3) > 0, read);
        Desk.due("parse by " + description, Desk.ask(desk.g::parse).equals("throws.IllegalStateException"),
            number != 0);
    }

    private static void good(String description) {
        fault(description, 0, 0);
    }

    private static void tokens() {
        fault("A=foo;", 1, 2);
        fault("A=numbername;", 1, 2);
        fault("A=num ber;", 1, 2);
        fault("A=dame;", 1, 2);
        fault("A=names;", 1, 2);
        good("A=number name;");
        good("\n A\n=\n name \n;\n");
        good("A=empty blank line deeper back;");
        fault("A=Name;", 1, 3);
        fault("A=\"\";", 1, 2);
        fault("A=\"abcdef\";", 1, 2);
        good("A=\"abcde\";");
        good("A=\"name\";");
        fault("A=\"abc;", 1, 2);
        fault("A=\"abc", 1, 2);
        fault("A=\"a b\";", 1, 2);
        fault("A=\"aB\";", 1, 2);
        fault("A=\"a1\";", 1, 2);
        fault("A=\"+ab\";", 1, 2);
        fault("A=\"", 1, 2);
        fault("A='a;", 1, 2);
        fault("A='Z;", 1, 2);
        fault("A='5;", 1, 2);
        fault("A=' +;", 1, 2);
        fault("A='\n;", 1, 2);
        fault("A='", 1, 2);
        good("A='';");
        good("A='\";");
        good("A='~;");
        good("A='!;");
        good("A='[;");
        good("A='`;");
        good("A='{;");
        fault("A=,;", 1, 2);
        fault("A=name,name;", 1, 6);
        fault("A=#;", 1, 2);
    }

    private static void rules() {
        fault("", 1, 0);
        fault(" \n ", 1, 3);
        fault("A", 1, 1);
        fault("A ", 1, 2);
        fault("A=", 1, 2);
        fault("A=;", 1, 2);
        fault("A;", 1, 1);
        fault("A=name", 1, 6);
        fault("A=name ", 1, 7);
        fault("a=name;", 1, 0);
        fault("AB=name;", 1, 1);
        fault("A=name;;", 1, 7);
        fault("A=name;B", 1, 8);
        fault("A=name;=", 1, 7);
        fault("A=number+;", 1, 9);
        fault("A=number+", 1, 9);
        fault("A=number+12;", 1, 10);
        fault("A=number+1+1;", 1, 10);
        fault("A=number*+1;", 1, 9);
        good("A=number\n+ 5*;");
        fault("A=name+1;", 1, 6);
        fault("A=+1;", 1, 2);
        fault("A=3;", 1, 2);
        fault("A=name**;", 1, 7);
        fault("A=name*?;", 1, 7);
        fault("A=*name;", 1, 2);
        fault("A=name~;", 1, 7);
        fault("A=~name;", 1, 2);
        fault("A=name~number~'+;", 1, 13);
        good("A=name~number '-~'+;");
        good("A=name?~number*;");
        fault("A=name|;", 1, 7);
        fault("A=|name;", 1, 2);
        fault("A=(name;", 1, 7);
        fault("A=(name", 1, 7);
        fault("A=name);", 1, 6);
        fault("A=();", 1, 3);
        fault("A=(name|);", 1, 8);
        fault("A=name;A=name;", 2, 7);
        fault("A=name;A", 2, 7);
        fault("A=name;B=foo;A=name;", 1, 9);
    }

    private static void tooMany() {
        StringBuilder ten = new StringBuilder();
        for (char c = 'A'; c <= 'J'; c++) {
            ten.append(c).append("=name;");
        }
        good(ten.toString());
        fault(ten + "K", 3, 70);
        fault(ten + "J", 2, 70);
        fault(ten + "k", 1, 70);

        String sixty = "'+".repeat(60);
        good("A=" + sixty + ";");
        fault("A=" + sixty + "'+;", 3, 122);
        fault("A=" + sixty + "foo;", 1, 122);
        fault("A=" + sixty + "(;", 3, 122);
        good("A=('+" + "'-".repeat(58) + ");");
        fault("A=('+" + "'-".repeat(59) + ");", 3, 121);

        good("A=(((('+))))(((('-))));");
        fault("A=((((('+)))));", 3, 6);

        StringBuilder twenty = new StringBuilder("A=");
        for (int k = 0; k < 20; k++) {
            twenty.append('\'').append(SIGNS.charAt(k));
        }
        good(twenty + ";");
        good(twenty + "'!'#;");
        fault(twenty + "'?;", 3, 42);
        fault(twenty + "\"a\";", 3, 42);

        String six = "A='!|'#|'$|'%|'&|'*";
        good(six + ";");
        fault(six + "|'+;", 3, 19);
        fault(six + "|", 3, 19);
        fault("A='!|'#|'$|'%|'&||", 1, 17);
        fault("A=('!|'#|'$|'%|'&|'*|'+);", 3, 20);
        good("A=('!|'#|'$|'%|'&|'*)|'+|'-;");
    }

    private static void missing() {
        fault("A=B C;B=name;", 4, 4);
        fault("A=name|C|B;", 4, 7);
        fault("A=('+ B)*;", 4, 6);
        fault("A=B;A=name;", 2, 4);
        fault("A=B;C=foo;", 1, 6);
        good("A=B;B=name;");
    }

    private static void recursion() {
        fault("A=A'+|number;", 5, 0);
        fault(" A=name? A;", 5, 1);
        fault("A=B;B=A|name;", 5, 0);
        fault("A=B;B=B|'+;", 5, 4);
        fault("A='+ C;C=empty C|'-;", 5, 7);
        fault("A=(A)*'+;", 5, 0);
        fault("A='+ B;B=line (name? (C)) '-;C=deeper B|'.;", 5, 7);
        fault("A=name?~A;", 5, 0);
        fault("A='+;B=B;", 5, 5);
        good("A='( A ')|name;");
        good("A=name('+ A)?;");
        fault("A='+ A;", 6, 0);
        fault("A=name;B='+ C;C='- B;", 6, 7);
        fault("A='+ B;B='- A|'* B;", 6, 0);
        fault("A=A;", 5, 0);
        good("A='+ A?;");
        good("A='+ A*'-;");
        fault("A='+ (A|'- A);", 6, 0);
        good("A='+ (A|'-);");
    }

    private static void voids() {
        fault("A=empty*;", 7, 7);
        fault("A=(line)?;", 7, 8);
        fault("A=(blank deeper back)*'+;", 7, 21);
        fault("A=(name*)?;", 7, 9);
        fault("A=(name?)*;", 9, 7);
        fault("A=B*name;B=name?;", 7, 3);
        fault("A=B?;B=C C;C=empty|'+;", 7, 3);
        fault("A=(name?~number?)*;", 9, 7);
        fault("A=('+|empty)?;", 7, 12);
        good("A=(name? '+)*;");
    }

    private static void choices() {
        fault("A=name|name;", 8, 6);
        fault("A='+|name|'-|name;", 8, 12);
        fault("A='+|name|name|'+;", 8, 9);
        fault("A=(empty|name)name;", 8, 8);
        fault("A=empty|line;", 8, 7);
        good("A='+;B=empty|line;");
        fault("A=B|'+ B;B='+;", 8, 3);
        good("A=(empty|name)number;");
        fault("A=(name?|'+)name;", 9, 7);
        fault("A=(name?|'+)'+;", 8, 8);
        fault("A=((name|'+)|('-|name));", 8, 12);
    }

    private static void follows() {
        fault("A=name*name;", 9, 6);
        fault("A=name?name;", 9, 6);
        fault("A=(name',)*line name;", 9, 10);
        fault("A=name?~name;", 9, 6);
        good("A=name~name?;");
        fault("A='+;B=C name;C='- name?;", 9, 23);
        fault("A=('+ number?)* number;", 9, 12);
        fault("A=(name '+?)* '+;", 9, 10);
        fault("A=('+ name '+?)*;", 9, 13);
        good("A=('+ name '+?)?;");
        fault("A=B*;B='- ('-)?;", 9, 14);
        fault("A='( A ')|'- A?;B='+ A '-;", 9, 14);
    }

    private static void inUse() {
        Desk desk = Desk.of("A=name;");
        desk.parse("a");
        desk.g.keep();
        desk.g.print();
        desk.write(0, "A=number;");
        Desk.due("the text is not in use before compile", desk.parse("b"), 2);
        Desk.due("compile", desk.g.compile(), 0);
        Desk.due("no tree then", desk.g.count(5), 0);
        Desk.due("nothing kept then", desk.g.count(6), 0);
        Desk.due("the output stays", desk.output(), "a");
        Desk.due("the input stays", desk.g.count(1), 1);
        Desk.due("the new one is in use", desk.parse("b"), -1);
        Desk.due("it parses", desk.parse("7"), 2);
        desk.compile("A=\"do\"'-;");
        desk.compile("A=name;");
        Desk.due("a keyword of one before is a name", desk.parse("do"), 2);
        desk.parse("a");
        Desk.due("and can be set", desk.g.set(1, Desk.letters("do")), true);
        desk.g.keep();
        Desk.due("a description with a fault", desk.compile("A="), 1 + 16 * 2);
        Desk.due("no tree", desk.g.count(5), 0);
        Desk.due("nothing kept", desk.g.count(6), 0);
        Desk.due("no parsing", Desk.ask(desk.g::parse), "throws.IllegalStateException");
    }

    private static void rule(Desk desk, int r, String want) {
        StringBuilder got = new StringBuilder();
        for (int what = 0; what < 4; what++) {
            got.append(what == 0 ? "" : " ").append(desk.g.rule(r, what));
        }
        Desk.due("starts, follows, void and height of rule " + r, got, want);
    }

    private static long kinds(int... all) {
        long bits = 0;
        for (int kind : all) {
            bits |= 1L << kind;
        }
        return bits;
    }

    private static void samples() {
        Desk one = Desk.ofSample(0);
        rule(one, 0, kinds(1, 2, 7) + " " + kinds(0, 8) + " 0 3");
        rule(one, 1, kinds(1, 2, 7) + " " + kinds(0, 8, 3, 4) + " 0 2");
        rule(one, 2, kinds(1, 2, 7) + " " + kinds(0, 8, 3, 4, 5, 6) + " 0 1");
        Desk two = Desk.ofSample(1);
        rule(two, 0, kinds(3) + " " + kinds(0, 4, 5, 8, 9) + " 0 1");
        rule(two, 1, kinds(5, 8, 9) + " " + kinds(4, 5, 8, 9) + " 0 2");
        rule(two, 2, kinds(1, 2, 10) + " " + kinds(7) + " 0 1");
        Desk three = Desk.ofSample(2);
        rule(three, 0, kinds(3) + " " + kinds(0) + " 0 1");
        rule(three, 1, kinds(2) + " " + kinds(4, 5) + " 0 2");
        rule(three, 2, kinds(7, 8) + " " + kinds(4, 5) + " 1 1");
    }

    private static void sets() {
        Desk unused = Desk.of("A='+;B=C name;C=empty;D=(B|'-)* C;");
        rule(unused, 0, kinds(3) + " " + kinds(0) + " 0 1");
        rule(unused, 1, kinds(2) + " " + kinds(2, 4) + " 0 2");
        rule(unused, 2, "0 " + kinds(2) + " 1 1");
        rule(unused, 3, kinds(2, 4) + " 0 1 2");
        Desk faulty = new Desk();
        Desk.due("left recursion", faulty.compile("A=A '+|B;B=B|C;C='- C;"), 5);
        rule(faulty, 0, kinds(4) + " " + kinds(0, 3) + " 0 -1");
        rule(faulty, 1, kinds(4) + " " + kinds(0, 3) + " 0 -1");
        rule(faulty, 2, kinds(4) + " " + kinds(0, 3) + " 0 -1");
        Desk high = Desk.of("A=B;B=C;C=D;D=E;E=F;F=G;G=H;H=I;I=J;J=name;");
        rule(high, 0, kinds(2) + " " + kinds(0) + " 0 10");
        rule(high, 9, kinds(2) + " " + kinds(0) + " 0 1");
        Desk back = Desk.of("A='+;B='-|A;C='.|B;D=empty|C name;E='* D;");
        rule(back, 3, kinds(3, 4, 5) + " 0 1 1");
        rule(back, 2, kinds(3, 4, 5) + " " + kinds(2) + " 0 1");
        Desk last = new Desk();
        StringBuilder twenty = new StringBuilder("A=");
        for (int k = 0; k < 20; k++) {
            twenty.append(k == 0 ? "" : "?").append('\'').append(SIGNS.charAt(k));
        }
        Desk.due("twenty literals", last.compile(twenty + ";"), 0);
        rule(last, 0, (kinds(23) - kinds(3)) + " 1 0 1");
        Desk pair = Desk.of("A=B~C D;B=number?;C=name?;D='+|empty;");
        rule(pair, 0, kinds(1, 2, 3) + " 1 1 2");
        rule(pair, 1, kinds(1) + " " + kinds(0, 2, 3) + " 1 1");
        rule(pair, 2, kinds(2) + " " + kinds(0, 3) + " 1 1");
    }

    private static void wrongCalls() {
        Desk desk = Desk.of("A=B;B=name;");
        for (int r : new int[] {-1, 2, 10, Integer.MIN_VALUE, Integer.MAX_VALUE}) {
            Desk.due("rule " + r, Desk.ask(() -> desk.g.rule(r, 0)), "throws.IndexOutOfBoundsException");
            Desk.due("rule " + r + ", 4", Desk.ask(() -> desk.g.rule(r, 4)), "throws.IndexOutOfBoundsException");
        }
        for (int what : new int[] {-1, 4, Integer.MIN_VALUE, Integer.MAX_VALUE}) {
            Desk.due("rule 0, " + what, Desk.ask(() -> desk.g.rule(0, what)), "throws.IllegalArgumentException");
        }
        desk.compile("A=B;B=name");
        Desk.due("rule of none", Desk.ask(() -> desk.g.rule(-1, 4)), "throws.IllegalStateException");
    }
}
