/** The description's tokens, its grammar and the faults 1 to 4, each sentence with an edge by a method of its own. */
public final class DescriptionEdgesTest {
    private static final String[] WORDS = {"number", "name", "empty", "blank", "line", "deeper", "back"};
    /** Signs enough for twenty literals and more. */
    private static final String SIGNS = "!\"#$%&'()*+,-./:;<=>?@[]^_`{|}~";

    public static void main(String[] args) throws ReflectiveOperationException {
        Sentences.run(DescriptionEdgesTest.class);
    }

    private static boolean isSmall(int c) {
        return c >= 'a' && c <= 'z';
    }

    private static boolean isCapital(int c) {
        return c >= 'A' && c <= 'Z';
    }

    private static boolean isDigit(int c) {
        return c >= '0' && c <= '9';
    }

    /** So many rules, with the names A, B, .. */
    private static String rules(int howMany) {
        StringBuilder all = new StringBuilder();
        for (int r = 0; r < howMany; r++) {
            all.append((char) ('A' + r)).append("=name;");
        }
        return all.toString();
    }

    /** So many different signs, each one a part. */
    private static String signs(int howMany) {
        StringBuilder all = new StringBuilder();
        for (int n = 0; n < howMany; n++) {
            all.append('\'').append(SIGNS.charAt(n));
        }
        return all.toString();
    }

    /** So many alternatives, all of them different signs. */
    private static String ways(int howMany) {
        StringBuilder all = new StringBuilder();
        for (int n = 0; n < howMany; n++) {
            all.append(n == 0 ? "'" : "|'").append(SIGNS.charAt(n));
        }
        return all.toString();
    }

    @Says("a WORD, all letters a .. z that follow one another")
    static void words() {
        for (String word : WORDS) {
            Desk.dueFound("A=" + word + ";", "good");
            Desk.dueFound("A='+ " + word.substring(1) + ";", "1@5");
            Desk.dueFound("A='+ " + word.substring(0, word.length() - 1) + ";", "1@5");
            Desk.dueFound("A='+ " + word + "s;", "1@5");
            Desk.dueFound("A='+ a" + word + ";", "1@5");
            Desk.dueFound("A='+ " + word + word + ";", "1@5");
            String capital = word.substring(0, 1).toUpperCase() + word.substring(1);
            Desk.dueFound("A='+ " + capital + ";", "1@6");
        }
        Desk.dueFound("A=nameB;B='+;", "good");
        Desk.dueFound("A=name'+name;", "good");
        Desk.dueFound("A=name\"x\"name;", "good");
    }

    @Says("a LETTER A .. Z")
    static void letters() {
        for (int c = 33; c <= 126; c++) {
            String rule = (char) c + "=name;";
            Desk.dueFound(rule, isCapital(c) ? "good" : "1@0");
        }
        Desk.dueFound("Z=A;A=name;", "good");
        Desk.dueFound("A=Z;Z=name;", "good");
        Desk.dueFound("AA=name;", "1@1");
    }

    @Says("a KEYWORD: \", 1 to 5 letters a .. z, \"")
    static void keywords() {
        Desk.dueFound("A=\"\";", "1@2");
        for (int letters = 1; letters <= 5; letters++) {
            Desk.dueFound("A=\"" + "az".repeat(3).substring(0, letters) + "\";", "good");
        }
        Desk.dueFound("A=\"azazaz\";", "1@2");
        Desk.dueFound("A=\"azazaza\";", "1@2");
        for (int c = 32; c <= 126; c++) {
            String found = Desk.found("A=\"a" + (char) c + "a\";");
            Desk.due("a keyword with " + (char) c, found.equals("good"), isSmall(c));
            if (c != '"') {
                Desk.due("a keyword with " + (char) c, found, isSmall(c) ? "good" : "1@2");
            }
        }
        Desk.dueFound("A=\"abcde", "1@2");
        Desk.dueFound("A=\"a", "1@2");
        Desk.dueFound("A=\"", "1@2");
        Desk.dueFound("A=\"a;B=name;", "1@2");
        Desk.dueFound("A=\"name\"\"a\"\"a\";", "good");
    }

    @Says("a SIGN: ' and one character 33 .. 126 behind it that is no letter and no digit")
    static void signs() {
        for (int c = 32; c <= 126; c++) {
            boolean sign = c > 32 && !isSmall(c) && !isCapital(c) && !isDigit(c);
            Desk.dueFound("A='" + (char) c + ";", sign ? "good" : "1@2");
            Desk.dueFound("A=name '" + (char) c + ";", sign ? "good" : "1@7");
        }
        Desk.dueFound("A='\n;", "1@2");
        Desk.dueFound("A='", "1@2");
        Desk.dueFound("A='';", "good");
        Desk.dueFound("A='''", "1@4");
        Desk.dueFound("A=''';;", "good");
        Desk.dueFound("A='+-;", "1@4");
    }

    @Says("a DIGIT 0 .. 9")
    static void digits() {
        for (int c = 33; c <= 126; c++) {
            Desk.dueFound("A=number+" + (char) c + ";", isDigit(c) ? "good" : "1@9");
        }
    }

    @Says("and each of = ; | * ? ( ) ~ +")
    static void marks() {
        for (int c = 33; c <= 126; c++) {
            String want = "1@7";
            if (c == ';') {
                want = "1@9";
            } else if (c == '|') {
                want = "8@7";
            } else if (c == '*' || c == '?') {
                want = "9@7";
            } else if (c == '(') {
                want = "1@13";
            } else if (c == '~') {
                want = "good";
            } else if (isCapital(c)) {
                want = c == 'A' ? "6@0" : "4@7";
            }
            Desk.dueFound("A=name " + (char) c + " name;", want);
        }
        Desk.dueFound("A=number + name;", "1@11");
        Desk.dueFound("A=(name ) name;", "good");
    }

    @Says("It has 1 to 10 RULES")
    static void howManyRules() {
        Desk.dueFound("", "1@0");
        Desk.dueFound(" ", "1@1");
        Desk.dueFound("\n\n", "1@2");
        for (int n = 1; n <= 10; n++) {
            Desk.dueFound(rules(n), "good");
        }
        Desk.dueFound(rules(11), "3@70");
    }

    @Says("a letter, its name, then =, a FORM and ;")
    static void rule() {
        Desk.dueFound("=name;", "1@0");
        Desk.dueFound("name;", "1@0");
        Desk.dueFound("A name;", "1@2");
        Desk.dueFound("A==name;", "1@2");
        Desk.dueFound("A=;", "1@2");
        Desk.dueFound("A=name;;", "1@7");
        Desk.dueFound("A=name B=name;", "1@8");
        Desk.dueFound("A=name)", "1@6");
        Desk.dueFound("A=name;name;", "1@7");
    }

    @Says("The first one is the START")
    static void start() {
        Desk.dueRead("A=name;B=number;", "a", "1:0 3:1");
        Desk.dueRead("A=name;B=number;", "1", "-1");
        Desk.dueRead("B=number;A=name;", "1", "1:0 2:1");
        Desk.dueRead("B=number;A=name;", "a", "-1");
    }

    @Says("ALTERNATIVES, one, or two to six with | between, which are a CHOICE then")
    static void alternatives() {
        Desk.dueRead("A='!;", "!", "1:0");
        Desk.dueRead("A=('!);", "!", "1:0");
        for (int n = 2; n <= 6; n++) {
            for (int way = 0; way < n; way++) {
                String sign = SIGNS.substring(way, way + 1);
                Desk.dueRead("A=" + ways(n) + ";", sign, "1:0 4:" + way);
                Desk.dueRead("A=(" + ways(n) + ");", sign, "1:0 4:" + way);
            }
        }
        Desk.dueFound("A=" + ways(7) + ";", "3@19");
        Desk.dueFound("A=(" + ways(7) + ");", "3@20");
        Desk.dueFound("A=||name;", "1@2");
    }

    @Says("An alternative: ITEMS, one or more")
    static void items() {
        Desk.dueFound("A=;", "1@2");
        Desk.dueFound("A=|name;", "1@2");
        Desk.dueFound("A=name|;", "1@7");
        Desk.dueFound("A=name||'+;", "1@7");
        Desk.dueFound("A=();", "1@3");
        Desk.dueFound("A=(|name);", "1@3");
        Desk.dueFound("A=(name|);", "1@8");
        Desk.dueFound("A=name name|'+'+'+;", "good");
    }

    @Says("a UNIT, or two with ~ between (SWAPPED)")
    static void swapped() {
        Desk.dueFound("A=~;", "1@2");
        Desk.dueFound("A=~name;", "1@2");
        Desk.dueFound("A=name~;", "1@7");
        Desk.dueFound("A=name~|'+;", "1@7");
        Desk.dueFound("A=(name~);", "1@8");
        Desk.dueFound("A=name~~number;", "1@7");
        Desk.dueFound("A=name~number;", "good");
        Desk.dueFound("A=name~number~'+;", "1@13");
        Desk.dueFound("A=name~number'+~'-;", "good");
        Desk.dueFound("A=name~number'+~'-~name;", "1@18");
        Desk.dueFound("A=name*~number?;", "good");
        Desk.dueFound("A=name~*;", "1@7");
        Desk.dueFound("A=(name~number)~('+~'-);", "good");
    }

    @Says("a PART, perhaps with * (MANY) or ? (MAYBE) behind it")
    static void repeats() {
        Desk.dueFound("A=*;", "1@2");
        Desk.dueFound("A=?;", "1@2");
        Desk.dueFound("A=name|*;", "1@7");
        Desk.dueFound("A=(*);", "1@3");
        for (String twice : new String[] {"**", "*?", "?*", "??"}) {
            Desk.dueFound("A=name" + twice + ";", "1@7");
        }
        Desk.dueFound("A=name *'+ ?;", "good");
        Desk.dueFound("A=(name)*('+)?;", "good");
    }

    @Says("number, perhaps with + and a digit behind it")
    static void plus() {
        Desk.dueFound("A=number+0;", "good");
        Desk.dueFound("A=number+9;", "good");
        Desk.dueFound("A=number + 5 *;", "good");
        Desk.dueFound("A=number+10;", "1@10");
        Desk.dueFound("A=number+1 0;", "1@11");
        Desk.dueFound("A=number+;", "1@9");
        Desk.dueFound("A=number+*;", "1@9");
        Desk.dueFound("A=number++1;", "1@9");
        Desk.dueFound("A=number+1+1;", "1@10");
        Desk.dueFound("A=number 1;", "1@9");
        Desk.dueFound("A=number*+1;", "1@9");
        Desk.dueFound("A=(number)+1;", "1@10");
        for (String other : new String[] {"name", "empty", "line", "\"abc\"", "'+", "A"}) {
            Desk.dueFound("A=" + other + "+1;", "1@" + (2 + other.length()));
        }
    }

    @Says("numbered 0, 1, .. as they come first")
    static void literalNumbers() {
        Desk desk = Desk.of("A=C B;B=\"b\"('+|\"a\")'+\"b\";C='-;D=\"b\";E='+;F=\"a\";G='-;H='*;");
        long[] starts = {6, 3, 6, 3, 4, 5, 6, 7};
        for (int r = 0; r < starts.length; r++) {
            Desk.due("starts of rule " + r, desk.g.rule(r, 0), 1L << starts[r]);
        }
        Desk.due("literals", desk.g.count(4), 5);
    }

    @Says("KEYWORDS and SIGNS are the LITERALS, numbered 0, 1, .. as they come first, at most 20")
    static void howManyLiterals() {
        Desk.dueFound("A=" + signs(19) + ";", "good");
        Desk.dueFound("A=" + signs(20) + ";", "good");
        Desk.dueFound("A=" + signs(21) + ";", "3@42");
        Desk.dueFound("A=" + signs(20) + signs(20) + ";", "good");
        Desk.dueFound("A=" + signs(19) + "\"a\"\"a\"'!;", "good");
        Desk.dueFound("A=" + signs(19) + "\"a\"\"b\"'!;", "3@43");
        Desk.dueFound("A=" + signs(19) + "\"a\" \"aa\"'!;", "3@44");
        Desk.dueFound("A=" + signs(20) + "name;B=\n'~;", "3@50");
        Desk.dueFound("A=" + signs(20) + "\"\";", "1@42");
        Desk desk = Desk.of("A=" + signs(20) + ";B='>;");
        Desk.due("the last one's kind", desk.g.rule(1, 0), 1L << 22);
    }

    @Says("FAULTS of the text, the first one from left to right")
    static void firstFault() {
        Desk.dueFound("A=foo;A=name;", "1@2");
        Desk.dueFound("A=name;A=foo;", "2@7");
        Desk.dueFound("A=" + ways(7) + ";A=foo;", "3@19");
        Desk.dueFound("A=foo|" + ways(7) + ";", "1@2");
        Desk.dueFound("A=B;B=C;C=(((((name)))));C=foo;", "3@14");
        Desk.dueFound("A=B;A=(((((name)))));", "2@4");
    }

    @Says("at the first character of its token")
    static void faultPlace() {
        Desk.dueFound("A = name namely ;", "1@9");
        Desk.dueFound("A = \n\n \"abcdef\" ;", "1@7");
        Desk.dueFound("A = 'a ;", "1@4");
        Desk.dueFound("A = name; \n A = name;", "2@12");
        Desk.dueFound("A=" + signs(20) + " \"abc\";", "3@43");
        Desk.dueFound("A=" + "'+".repeat(60) + " number;", "3@123");
        Desk.dueFound("A=" + "'+".repeat(60) + "\n\"abc\";", "3@123");
    }

    @Says("1 at the end, too, where a token must come, at the place behind the last character")
    static void faultAtEnd() {
        String[] cut = {
            "", "A", "A=", "A=name", "A=name*", "A=number+", "A=number+1", "A=(", "A=(name", "A=((name)", "A=name~",
            "A=name|", "A=name;B", "A=name;B=", "A='+",
        };
        for (String text : cut) {
            Desk.dueFound(text, "1@" + text.length());
            Desk.dueFound(text + " \n ", "1@" + (text.length() + 3));
        }
        Desk.dueFound("A=name;", "good");
        Desk.dueFound("A=name; \n ", "good");
    }

    @Says("1 a token that can't stand there, or is none of these (as a \" or ' that begins none)")
    static void faultOne() {
        for (char c : "#$%&,-./:<>@[\\]^_`{}!0123456789abcxyz".toCharArray()) {
            Desk.dueFound("A='+ " + c + ";", "1@5");
        }
        Desk.dueFound("A='+ \";", "1@5");
        Desk.dueFound("A='+ '", "1@5");
        Desk.dueFound("A=name)name;", "1@6");
        Desk.dueFound("A=(name;", "1@7");
        Desk.dueFound("A=(name));", "1@8");
    }

    @Says("2 the name of a rule that another one before has")
    static void faultTwo() {
        Desk.dueFound("A=name;A=name;", "2@7");
        Desk.dueFound("A=name;A", "2@7");
        Desk.dueFound("A=name;A;", "2@7");
        Desk.dueFound("A=name;B=name;A=name;", "2@14");
        Desk.dueFound("A=name;B=name;B=name;", "2@14");
        Desk.dueFound("A=B B;B=name;", "good");
        Desk.dueFound(rules(9) + "I=name;", "2@63");
    }

    @Says("3 an eleventh rule (at its name)")
    static void eleventhRule() {
        Desk.dueFound(rules(10) + " \n", "good");
        Desk.dueFound(rules(10) + " \nK=name;", "3@72");
        Desk.dueFound(rules(10) + "Z", "3@70");
        Desk.dueFound(rules(10) + "Z;", "3@70");
    }

    @Says("a part too many (the 61st of the description, each ( counts too)")
    static void partTooMany() {
        String sixty = "A=" + "'+".repeat(60);
        Desk.dueFound(sixty + ";", "good");
        for (String part : new String[] {"number", "name", "empty", "line", "\"abc\"", "'+", "A", "(name)"}) {
            Desk.dueFound(sixty + part + ";", "3@122");
            Desk.dueFound(sixty + ";B=" + part + ";", "3@125");
        }
        Desk.dueFound("A=" + "('+)".repeat(30) + ";", "good");
        Desk.dueFound("A=" + "('+)".repeat(30) + "'+;", "3@122");
        Desk.dueFound("A=" + "('+)".repeat(29) + "'+('+);", "3@121");
        Desk.dueFound("A=empty" + " line".repeat(19) + " '+".repeat(40) + ";", "good");
        Desk.dueFound("A=empty" + " line".repeat(19) + " '+".repeat(41) + ";", "3@223");
        Desk.dueFound(rules(9) + "J=" + "'+".repeat(51) + ";", "good");
        Desk.dueFound(rules(9) + "J=" + "'+".repeat(52) + ";", "3@167");
        Desk.dueFound("A=" + "'+*".repeat(60) + ";", "9@4");
        Desk.dueFound("A=" + "'+~'-".repeat(30) + ";", "good");
    }

    @Says("the 61st of the description")
    static void sixtyInOne() {
        Desk desk = Desk.of("A=" + "'+".repeat(59) + "name;");
        Desk.due("60 parts in one alternative", desk.parse("+".repeat(59) + "b"), 2);
        Desk.due("the last one's node", desk.nodes(), "1:0 3:2");
        Desk.due("all are printed", desk.print(), "+".repeat(59) + "b");
        Desk.due("all are grown", Desk.ask(() -> desk.g.grow(1, 1)), 2);
        Desk.due("one is missing", desk.parse("+".repeat(59)), -60);
        Desk first = new Desk();
        first.compile("A=" + "'+?".repeat(59) + "name;");
        Desk.due("the last one's starts", first.g.rule(0, 0), Desk.kinds(2, 3));
        Desk.due("it is not void", first.g.rule(0, 2), 0);
        Desk.dueFound("A='!A?'#" + "'$".repeat(56) + "'#?;", "9@122");
        Desk.dueFound("A='!A?'#" + "'$".repeat(56) + "'%?;", "good");
    }

    @Says("a seventh alternative")
    static void sixtyAlternatives() {
        StringBuilder all = new StringBuilder();
        for (int r = 0; r < 10; r++) {
            all.append((char) ('A' + r)).append('=').append(ways(6)).append(';');
        }
        Desk desk = Desk.of(all.toString());
        Desk.due("starts of the last rule", desk.g.rule(9, 0), Desk.kinds(3, 4, 5, 6, 7, 8));
        Desk.due("rules", desk.g.count(3), 10);
        String last = all.substring(0, all.length() - 3) + "'!;";
        Desk.dueFound(last, "8@" + (last.length() - 4));
        String used = "A='@ J;" + all.substring(20);
        Desk tenth = Desk.of(used);
        Desk.due("by the first way of the last rule", tenth.parse("@!"), 3);
        Desk.due("by the last way of the last rule", tenth.parse("@&"), 3);
        Desk.due("its nodes", tenth.nodes(), "1:0 1:9 4:5");
    }

    @Says("a fifth ( that is open")
    static void fifthOpen() {
        Desk.dueFound("A=((((name))));", "good");
        Desk.dueFound("A=(((((name)))));", "3@6");
        Desk.dueFound("A=((((name))))((((number))));", "good");
        Desk.dueFound("A=((((name)(number)('+))));", "good");
        Desk.dueFound("A=((((name)))(((number))));", "good");
        Desk.dueFound("A=((((name)))((((number)))));", "3@16");
        Desk.dueFound("A=(name|((('+|('-)))));", "3@14");
        Desk.dueFound("A=((((B))));B=((((name))));", "good");
        Desk.dueFound("A=( ( ( ( (", "3@10");
        Desk.dueFound("A=((((", "1@6");
    }

    @Says("a literal too many")
    static void literalTooMany() {
        Desk.dueFound(rules(9) + "J=" + signs(20) + ";", "good");
        Desk.dueFound("A=" + signs(20) + "name;B='!;", "good");
        Desk.dueFound("A=" + signs(20) + "name;B='?;", "3@49");
        Desk.dueFound("A=" + signs(20) + "(name|\"a\");", "3@48");
    }

    @Says("a seventh alternative (at the | before it)")
    static void seventhAlternative() {
        Desk.dueFound("A=" + ways(6) + ";", "good");
        Desk.dueFound("A=" + ways(6) + "|name;", "3@19");
        Desk.dueFound("A=" + ways(6) + " \n|name;", "3@21");
        Desk.dueFound("A=" + ways(6) + "|", "3@19");
        Desk.dueFound("A=(" + ways(6) + ")|name|number;", "good");
        Desk.dueFound("A=name;B=number|(" + ways(7) + ");", "3@34");
        Desk.dueFound("A=" + ways(6) + ";B=" + ways(6) + ";C=" + ways(6) + ";", "good");
    }

    @Says("Of one token the lesser number counts")
    static void lesserNumber() {
        String sixty = "A=" + "'+".repeat(60);
        Desk.dueFound(sixty + "foo;", "1@122");
        Desk.dueFound(sixty + "\"\";", "1@122");
        Desk.dueFound(sixty + "'a;", "1@122");
        Desk.dueFound(sixty + "=;", "1@122");
        Desk.dueFound(rules(10) + "J=name;", "2@70");
        Desk.dueFound(rules(10) + "A", "2@70");
        Desk.dueFound(rules(10) + "a", "1@70");
        Desk.dueFound(rules(10) + ";", "1@70");
        Desk.dueFound("A=" + ways(5) + "||'-;", "1@17");
        Desk.dueFound("A=" + signs(20) + "|\"abcdef\";", "1@43");
        Desk.dueFound("A=((((name~((", "3@11");
    }

    @Says("If there is none of these: 4 the first use of a rule that there is not (there)")
    static void faultFour() {
        Desk.dueFound("A=B;", "4@2");
        Desk.dueFound("A=name B C;", "4@7");
        Desk.dueFound("A=name;B=((C)?|D);", "4@11");
        Desk.dueFound("A=B C;B=name;", "4@4");
        Desk.dueFound("A=B;B=C;C=D;D=name E;", "4@19");
        Desk.dueFound("A=B;B=name;", "good");
        Desk.dueFound("A=C B;A=name;", "2@6");
        Desk.dueFound("A=C B;D=foo;", "1@8");
        Desk.dueFound("A=C;" + "B=" + ways(7) + ";", "3@23");
        Desk.dueFound("A=A B;", "4@4");
        Desk.dueFound("A=empty*name|name B;", "4@18");
    }
}
