/** Promise 8: grow. */
public final class GrowTest {
    private static final String LIMIT = "throws.UnsupportedOperationException";

    public static void main(String[] args) {
        draws();
        names();
        fuel();
        order();
        limits();
        wrongCalls();
        Desk.end();
    }

    private static final long[] SEEDS = {0, 1, 2, 3, 99, 12345, -1, -77, Long.MIN_VALUE, Long.MAX_VALUE, 1L << 40};

    private static void draws() {
        Desk desk = Desk.of("A=number+3 name('+|'-|'*)'/*'!? number;");
        for (long x : SEEDS) {
            Draws d = new Draws(x);
            String want = "1:0 2:" + d.below(10000) + " 3:" + Desk.letters(d.name()) + " 4:" + d.below(3)
                + " 5:" + d.below(3) + " 6:" + d.below(2) + " 2:" + d.below(10000);
            Desk.due("grow " + x, Desk.ask(() -> desk.g.grow(x, 1)), 7);
            Desk.due("grown by " + x, desk.nodes(), want);
        }
        Desk many = Desk.of("A=number* '!('# name)?;");
        for (long x : SEEDS) {
            Draws d = new Draws(x);
            StringBuilder want = new StringBuilder("1:0 5:");
            int times = d.below(3);
            want.append(times);
            for (int k = 0; k < times; k++) {
                want.append(" 2:").append(d.below(10000));
            }
            int once = d.below(2);
            want.append(" 6:").append(once);
            if (once == 1) {
                want.append(" 3:").append(Desk.letters(d.name()));
            }
            many.g.grow(x, 20);
            Desk.due("many grown by " + x, many.nodes(), want);
        }
    }

    private static void names() {
        Desk desk = Desk.of("A=name(\"a\"|\"b\"|\"az\"|\"azz\"|\"abc\"|\"abcz\");B=\"abczz\"\"bb\";");
        String keywords = " a b az azz abc abcz abczz bb ";
        for (long x = 0; x < 60; x++) {
            Draws d = new Draws(x);
            StringBuilder name = new StringBuilder(d.name());
            while (keywords.contains(" " + name + " ")) {
                name.append('z');
            }
            long seed = x;
            Desk.due("grow " + x, Desk.ask(() -> desk.g.grow(seed, 0)), 3);
            Desk.due("name grown by " + x, desk.g.node(1, 1), Desk.letters(name.toString()));
        }
    }

    private static void fuel() {
        Desk desk = Desk.of("A=B|'+ A|'-|'*;B='. ;");
        for (long x : SEEDS) {
            desk.g.grow(x, 0);
            Desk.due("the first alternative of least height", desk.nodes(), "1:0 4:2");
        }
        Desk groups = Desk.of("A=('! B~C)|('+(B|'! B))|(C '-);B=C;C='. ;");
        groups.g.grow(5, 0);
        Desk.due("heights of groups and pairs", groups.nodes(), "1:0 4:2 1:2");
        Desk none = Desk.of("A=number '#*'!? name;");
        for (long x : SEEDS) {
            Draws d = new Draws(x);
            none.g.grow(x, 0);
            Desk.due("nothing is drawn for many and maybe", none.nodes(),
                "1:0 2:" + d.below(10000) + " 5:0 6:0 3:" + Desk.letters(d.name()));
        }
        Desk lost = Desk.of("A=B B('+|'-);B='. ;");
        for (long x : SEEDS) {
            String drawn = " 4:" + new Draws(x).below(2);
            lost.g.grow(x, 3);
            Desk.due("fuel is left", lost.nodes(), "1:0 1:1 1:1" + drawn);
            lost.g.grow(x, 2);
            Desk.due("fuel is lost for good, also behind a use", lost.nodes(), "1:0 1:1 1:1 4:0");
        }
        Desk maybe = Desk.of("A='( A? ')'.*;");
        for (int f = 0; f <= 20; f++) {
            int fuel = f;
            String answer = Desk.ask(() -> maybe.g.grow(7, fuel));
            Desk.due("fuel " + f + " is fine", answer.equals("throws.IllegalArgumentException"), false);
        }
    }

    private static void order() {
        Desk desk = Desk.of("A=number~name(number~(name~number));");
        for (long x : SEEDS) {
            Draws d = new Draws(x);
            int first = d.below(10000);
            long second = Desk.letters(d.name());
            int third = d.below(10000);
            long fourth = Desk.letters(d.name());
            int fifth = d.below(10000);
            desk.g.grow(x, 0);
            Desk.due("the first of a pair is drawn first", desk.nodes(),
                "1:0 3:" + second + " 2:" + first + " 2:" + fifth + " 3:" + fourth + " 2:" + third);
        }
        Desk two = Desk.ofSample(1);
        Desk.due("a sample", Desk.ask(() -> two.g.grow(12345, 12)), 18);
        Desk.due("a grown sample", two.print().substring(0, 20), "{\n  do{\n    do{\n    ");
    }

    private static void limits() {
        Desk wide = Desk.of("A=BBBB;B=CCCC;C=DDDD;D='.name;");
        Desk.due("more than 100 nodes", Desk.ask(() -> wide.g.grow(1, 20)), LIMIT);
        Desk.due("no tree", wide.g.count(5), 0);
        Desk edge = Desk.of("A=BBBBBBBBB number*;B=CCCCC;C=name;");
        Desk.due("101 nodes", Desk.ask(() -> edge.g.grow(1, 0)), LIMIT);
        Desk hundred = Desk.of("A=BBBBBBBBB;B=CCCCC;C=name;");
        Desk.due("100 nodes", Desk.ask(() -> hundred.g.grow(1, 0)), 100);
        Desk deep = Desk.of("A='( A ')|'. ;");
        int grown = 0;
        int refused = 0;
        long last = 0;
        for (long x = 0; x < 20000; x++) {
            Draws d = new Draws(x);
            int uses = 1;
            while (d.below(2) == 0) {
                uses++;
            }
            if (uses >= 12) {
                long seed = x;
                Desk.due("uses " + uses, Desk.ask(() -> deep.g.grow(seed, 20)), uses > 12 ? LIMIT : 24);
                grown += uses == 12 ? 1 : 0;
                refused += uses > 12 ? 1 : 0;
                last = deep.g.count(5);
            }
        }
        Desk.due("both were met", grown > 0 && refused > 0, true);
        Desk.due("the tree before stays", last, 24);
    }

    private static void wrongCalls() {
        Desk none = new Desk();
        Desk good = Desk.of("A=name;");
        Desk bad = new Desk();
        bad.compile("A=A;");
        for (int fuel : new int[] {-1, 21, Integer.MIN_VALUE, Integer.MAX_VALUE}) {
            for (Desk desk : new Desk[] {none, good, bad}) {
                Desk.due("fuel " + fuel, Desk.ask(() -> desk.g.grow(1, fuel)), "throws.IllegalArgumentException");
            }
        }
        Desk.due("no description", Desk.ask(() -> none.g.grow(1, 20)), "throws.IllegalStateException");
        Desk.due("no good description", Desk.ask(() -> bad.g.grow(1, 0)), "throws.IllegalStateException");
        Desk.due("a good one", Desk.ask(() -> good.g.grow(1, 20)), 2);
    }
}
