import java.math.BigInteger;
import java.util.List;
import java.util.TreeSet;

/** Growing and promise 8, each sentence with an edge in it by a method of its own. */
public final class GrowEdgesTest {
    private static final long[] SEEDS = {
        0, 1, 2, 3, 4, 5, 99, 12345, -1, -2, -77, Long.MIN_VALUE, Long.MIN_VALUE + 1, Long.MAX_VALUE, 1L << 33, 1L << 62,
    };

    public static void main(String[] args) throws ReflectiveOperationException {
        Sentences.run(GrowEdgesTest.class);
    }

    /** Seeds that follow one another have first draws that are much alike; these don't. */
    private static long spread(long k) {
        return k * 0x9E3779B97F4A7C15L;
    }

    private static String grown(Desk desk, long x, int fuel) {
        String answer = Desk.ask(() -> desk.g.grow(x, fuel));
        return answer.startsWith("throws") ? answer : desk.nodes();
    }

    @Says("x becomes x * 6364136223846793005 + 1442695040888963407 (wrapping), then (x >>> 33) % n is drawn")
    static void draw() {
        Desk desk = Desk.of("A=number number;");
        BigInteger all = BigInteger.ONE.shiftLeft(64);
        for (long seed : SEEDS) {
            BigInteger x = BigInteger.valueOf(seed).mod(all);
            StringBuilder want = new StringBuilder("1:0");
            for (int k = 0; k < 2; k++) {
                x = x.multiply(new BigInteger("6364136223846793005")).add(new BigInteger("1442695040888963407")).mod(all);
                want.append(" 2:").append(x.shiftRight(33).mod(BigInteger.valueOf(10000)));
            }
            Desk.due("grow " + seed, grown(desk, seed, 0), want);
        }
    }

    @Says("All is made in the order of the text (the first of a pair first), nodes as in parsing")
    static void order() {
        Desk desk = Desk.of("A=number~name('+|'-)~number;");
        for (long x : SEEDS) {
            Draws d = new Draws(x);
            int first = d.below(10000);
            String second = d.name();
            int third = d.below(2);
            int fourth = d.below(10000);
            Desk.due("grow " + x, grown(desk, x, 9),
                "1:0 3:" + Desk.letters(second) + " 2:" + first + " 2:" + fourth + " 4:" + third);
        }
        Desk uses = Desk.of("A=B~C;B=number;C=number;");
        for (long x : SEEDS) {
            Draws d = new Draws(x);
            int first = d.below(10000);
            Desk.due("uses by " + x, grown(uses, x, 9), "1:0 1:2 2:" + d.below(10000) + " 1:1 2:" + first);
        }
    }

    @Says("at a use (and the start) the fuel becomes 1 less")
    static void fuelOfUses() {
        Desk start = Desk.of("A='!|'#|'$;");
        Desk use = Desk.of("A=B;B='!|'#|'$;");
        Desk third = Desk.of("A=B;B=C;C='!|'#|'$;");
        for (long x : SEEDS) {
            int drawn = new Draws(x).below(3);
            Desk.due("no fuel", grown(start, x, 0), "1:0 4:0");
            Desk.due("fuel for the start", grown(start, x, 1), "1:0 4:" + drawn);
            Desk.due("fuel for the start alone", grown(use, x, 1), "1:0 1:1 4:0");
            Desk.due("fuel for the use, too", grown(use, x, 2), "1:0 1:1 4:" + drawn);
            Desk.due("fuel for two", grown(third, x, 2), "1:0 1:1 1:2 4:0");
            Desk.due("fuel for three", grown(third, x, 3), "1:0 1:1 1:2 4:" + drawn);
        }
    }

    @Says("(for good, also behind that use)")
    static void fuelIsGone() {
        for (long x : SEEDS) {
            Desk desk = Desk.of("A='!B('!|'#|'$)B('!|'#|'$);B='. ;");
            Draws d = new Draws(x);
            int first = d.below(3);
            int second = d.below(3);
            Desk.due("fuel 1", grown(desk, x, 1), "1:0 1:1 4:0 1:1 4:0");
            Desk.due("fuel 2", grown(desk, x, 2), "1:0 1:1 4:" + first + " 1:1 4:0");
            Desk.due("fuel 3", grown(desk, x, 3), "1:0 1:1 4:" + first + " 1:1 4:" + second);
        }
        Desk pair = Desk.of("A=('!|'#|'$)~B ('!|'#|'$);B='. ;");
        for (long x : SEEDS) {
            Desk.due("in a pair", grown(pair, x, 1), "1:0 1:1 4:" + new Draws(x).below(3) + " 4:0");
        }
    }

    @Says("the value of a number's node is drawn below 10000")
    static void numbers() {
        Desk desk = Desk.of("A=number+7;");
        for (long x : SEEDS) {
            int drawn = new Draws(x).below(10000);
            Desk.due("the digit is not added", grown(desk, x, 0), "1:0 2:" + drawn);
            Desk.due("but taken off", desk.print(), (drawn + 10000 - 7) % 10000);
        }
        Desk plain = Desk.of("A=number;");
        int most = 0;
        int least = 9999;
        for (long k = 0; k < 200; k++) {
            plain.g.grow(spread(k), 0);
            int value = (int) plain.g.node(1, 1);
            most = Math.max(most, value);
            least = Math.min(least, value);
        }
        Desk.due("great ones were drawn", most > 9800 && most < 10000, true);
        Desk.due("small ones were drawn", least < 200 && least >= 0, true);
    }

    @Says("a name gets 1 + a draw below 3 letters, each drawn below 3 from a, b, c")
    static void names() {
        int[] seen = new int[4];
        Desk desk = Desk.of("A=name;");
        for (long k = 0; k < 60; k++) {
            long x = spread(k);
            String name = new Draws(x).name();
            Desk.due("grow " + x, grown(desk, x, 0), "1:0 3:" + Desk.letters(name));
            seen[name.length()]++;
        }
        Desk.due("one to three letters were seen", seen[1] > 0 && seen[2] > 0 && seen[3] > 0, true);
    }

    @Says("and z behind it as long as it is a keyword")
    static void namesOfKeywords() {
        String[] keywords = {"a", "az", "b", "ab", "abz", "abzz", "abc", "abcz", "abczz", "c"};
        StringBuilder description = new StringBuilder("A=name;B=");
        for (String keyword : keywords) {
            description.append('"').append(keyword).append('"');
        }
        List<String> all = List.of(keywords);
        TreeSet<String> seen = new TreeSet<>();
        Desk desk = Desk.of(description + ";");
        for (long k = 0; k < 400; k++) {
            long x = spread(k);
            if (k % 100 == 0) {
                desk = Desk.of(description + ";");
            }
            String name = new Draws(x).name();
            while (all.contains(name)) {
                name += "z";
            }
            desk.g.grow(x, 0);
            Desk.due("grow " + x, desk.g.node(1, 1), Desk.letters(name));
            seen.add(name);
        }
        for (String name : new String[] {"azz", "bz", "abzzz", "abczzz", "cz", "aa", "bb"}) {
            Desk.due(name + " was seen", seen.contains(name), true);
        }
    }

    @Says("which alternative, is drawn; how often a many, below 3; a maybe below 2")
    static void ways() {
        Desk six = Desk.of("A='!|'#|'$|'%|'&|'*;");
        Desk many = Desk.of("A='.*;");
        Desk maybe = Desk.of("A='.?;");
        int[] seen = new int[6 + 3 + 2];
        for (long k = 0; k < 60; k++) {
            long x = spread(k);
            int way = new Draws(x).below(6);
            int often = new Draws(x).below(3);
            int once = new Draws(x).below(2);
            Desk.due("one of six by " + x, grown(six, x, 20), "1:0 4:" + way);
            Desk.due("many by " + x, grown(many, x, 20), "1:0 5:" + often);
            Desk.due("maybe by " + x, grown(maybe, x, 20), "1:0 6:" + once);
            seen[way]++;
            seen[6 + often]++;
            seen[9 + once]++;
        }
        for (int way = 0; way < seen.length; way++) {
            Desk.due("way " + way + " was seen", seen[way] > 0, true);
        }
        Desk within = Desk.of("A=number*name?;");
        for (long k = 0; k < 20; k++) {
            long x = spread(k);
            Draws d = new Draws(x);
            int often = d.below(3);
            StringBuilder want = new StringBuilder("1:0 5:" + often);
            for (int n = 0; n < often; n++) {
                want.append(" 2:").append(d.below(10000));
            }
            int once = d.below(2);
            want.append(" 6:").append(once).append(once == 0 ? "" : " 3:" + Desk.letters(d.name()));
            Desk.due("how often comes before what is in it, by " + x, grown(within, x, 1), want);
        }
    }

    @Says("While the fuel is below 0, nothing is drawn for the last three")
    static void nothingDrawn() {
        Desk desk = Desk.of("A=('!|'#)'.*'%?number name;");
        for (long x : SEEDS) {
            Draws d = new Draws(x);
            int number = d.below(10000);
            Desk.due("fuel 0", grown(desk, x, 0), "1:0 4:0 5:0 6:0 2:" + number + " 3:" + Desk.letters(d.name()));
            Draws all = new Draws(x);
            String ways = "1:0 4:" + all.below(2) + " 5:" + all.below(3) + " 6:" + all.below(2);
            String rest = " 2:" + all.below(10000) + " 3:" + Desk.letters(all.name());
            Desk.due("fuel 1", grown(desk, x, 1), ways + rest);
        }
    }

    @Says("the first alternative of least height, and 0, are taken")
    static void leastHeight() {
        String rules = ";B='!;C=B;D='$ C;E='% E|'&;";
        String[] forms = {
            "'. B|'+|'-", "C|'# B|'+|'-", "'+ B|'- C|'* B", "'+ C|'- B|'* B", "'+ D|'- C|'* E", "'+ A|'- B", "'+(B|'# C)|'-",
            "'+ B*|'-", "'+ B?|'-", "'+ B B|'- B", "'+ '-(C|'+)|'*", "('+ C)|('- B)", "'+ B~C|'- C", "'+ C~'.|'- B",
        };
        int[] due = {1, 2, 0, 1, 2, 1, 1, 0, 0, 0, 0, 1, 0, 1};
        for (int k = 0; k < forms.length; k++) {
            Desk desk = Desk.of("A=" + forms[k] + rules);
            for (long x = 0; x < 3; x++) {
                Desk.due("the alternative of " + forms[k], grown(desk, x, 0).split(" ")[1], "4:" + due[k]);
            }
        }
    }

    @Says("Promise 8: Grows a tree: how many nodes it has")
    static void growAnswers() {
        Desk desk = Desk.of("A=(name|number '!)*;");
        for (long k = 0; k < 40; k++) {
            long seed = spread(k);
            String answer = Desk.ask(() -> desk.g.grow(seed, 5));
            Desk.due("nodes", answer, desk.g.count(5));
            Desk.due("in the first", desk.g.node(0, 3) + 1, answer);
        }
        Desk.due("one node", Desk.ask(() -> Desk.of("A=empty;").g.grow(1, 0)), 1);
        Desk.due("a tree in place of one that was parsed", desk.parse("a b c").equals("8"), true);
        desk.g.keep();
        desk.g.grow(0, 0);
        Desk.due("the new one", desk.nodes(), "1:0 5:0");
        Desk.due("the one kept stays", desk.g.count(6), 8);
    }

    @Says("Promise 8: IllegalArgumentException when fuel is not 0 .. 20")
    static void wrongFuel() {
        Desk good = Desk.of("A=name;");
        good.parse("x");
        Desk bad = new Desk();
        bad.compile("A=A;");
        Desk faulty = new Desk();
        faulty.compile("A=");
        for (int fuel : new int[] {-1, 21, -2, 22, 100, Integer.MIN_VALUE, Integer.MAX_VALUE}) {
            for (Desk desk : new Desk[] {good, bad, faulty, new Desk()}) {
                Desk.due("fuel " + fuel, Desk.ask(() -> desk.g.grow(1, fuel)), Desk.ARGUMENT);
            }
        }
        Desk.due("the tree stays", good.nodes(), "1:0 3:24");
        for (int fuel = 0; fuel <= 20; fuel++) {
            int right = fuel;
            Desk.due("fuel " + fuel, Desk.ask(() -> good.g.grow(1, right)), 2);
        }
    }

    @Says("Promise 8: else IllegalStateException when the description in use is not good")
    static void growByNone() {
        TwoWayGrammar g = new TwoWayGrammar();
        g.sample(0);
        Desk.due("before any compile", Desk.ask(() -> g.grow(1, 1)), Desk.STATE);
        String[] faulty = {
            "A=", "A=name;A=name;", "A=((((('+)))));", "A=B;", "A=A;", "A='+ A;", "A=line*;", "A='+|'+;", "A='+*'+;",
        };
        for (int k = 0; k < faulty.length; k++) {
            Desk desk = Desk.of("A=name;");
            Desk.due("fault " + (k + 1), desk.compile(faulty[k]) % 16, k + 1);
            Desk.due("grow with fault " + (k + 1), Desk.ask(() -> desk.g.grow(1, 0)), Desk.STATE);
            Desk.due("with all fuel", Desk.ask(() -> desk.g.grow(1, 20)), Desk.STATE);
            Desk.due("no tree", desk.g.count(5), 0);
        }
    }

    @Says("Promise 8: else UnsupportedOperationException when the limits are passed (the tree before stays)")
    static void nodeLimit() {
        String hundred = "BBBBBBBBB;B=CCCCC;C=name;";
        Desk.due("100 nodes", Desk.ask(() -> Desk.of("A=" + hundred).g.grow(1, 0)), 100);
        for (String part : new String[] {"name ", "number ", "D", "'.*", "'.?", "('.|'!)"}) {
            Desk desk = Desk.of("A=" + part + hundred + "D='!;");
            Desk.due("101 nodes with " + part, Desk.ask(() -> desk.g.grow(1, 0)), Desk.LIMIT);
            Desk.due("no tree", desk.g.count(5), 0);
            Desk last = Desk.of("A=" + hundred.replace(";B", part + ";B") + "D='!;");
            Desk.due("a 101st node, " + part, Desk.ask(() -> last.g.grow(1, 0)), Desk.LIMIT);
        }
        Desk literals = Desk.of("A='!'!'! line empty BBBBBBBBB'!('!);B=CCCCC;C=name;");
        Desk.due("100 nodes and what has none", Desk.ask(() -> literals.g.grow(1, 0)), 100);
    }

    @Says("Promise 8: else UnsupportedOperationException when the limits are passed (the tree before stays)")
    static void useLimit() {
        Desk desk = Desk.of("A='( A ')|'. ;");
        int twelve = 0;
        int more = 0;
        for (long x = 0; x < 60000; x++) {
            Draws d = new Draws(x);
            int uses = 1;
            while (uses < 20 && d.below(2) == 0) {
                uses++;
            }
            if (uses == 12 && twelve < 3 || uses > 12 && more < 3) {
                String before = desk.nodes();
                Desk.due(uses + " uses in one another", grown(desk, x, 20).startsWith("throws"), uses > 12);
                Desk.due("the tree then", uses > 12 ? desk.nodes() : desk.g.count(5), uses > 12 ? before : 24);
                twelve += uses == 12 ? 1 : 0;
                more += uses > 12 ? 1 : 0;
            }
        }
        Desk.due("both were met", twelve > 0 && more > 0, true);
    }

    @Says("Promise 8: the tree before stays")
    static void limitLeavesTree() {
        Desk desk = Desk.of("A='! name|'- A A|'+ A A|'# A A A;");
        desk.parse("! b");
        desk.g.keep();
        int refused = 0;
        for (long k = 0; k < 40; k++) {
            long seed = spread(k);
            if (Desk.ask(() -> desk.g.grow(seed, 20)).equals(Desk.LIMIT)) {
                Desk.due("the tree before stays", desk.g.compare(), 0);
                refused++;
            } else {
                desk.parse("! b");
            }
        }
        Desk.due("some were refused", refused > 0, true);
    }
}
