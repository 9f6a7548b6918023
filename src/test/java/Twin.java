import java.util.List;
import java.util.NoSuchElementException;
import java.util.Set;

/** The document told once more, in the plainest way and by the library's means: what each call must answer. */
final class Twin {
    private static final String[] SAMPLES = {
        "E = T ( ( '+ | '- ) T )* ;\nT = F ( ( '* | '/ ) F )* ;\nF = number | name | '( E ') ;\n",
        "P = '{ deeper ( line S )* back line '} ;\n"
            + "S = \"let\" name blank '= blank V '; | \"do\" P | \"put\" V '; ;\nV = name | number + 1 | '- V ;\n",
        "D = '[ ( R ( ', blank R )* )? '] ;\nR = name ': ( number ~ U ) ;\nU = '# name? | '$ | empty ;\n",
    };

    private final String[] texts = {"", ""};
    private String output = "";
    private TwinLanguage language = new TwinLanguage("");
    private boolean good;
    private TwinTree tree;
    private TwinTree kept;

    private static void need(boolean so, RuntimeException otherwise) {
        if (!so) {
            throw otherwise;
        }
    }

    boolean type(int text, char c) {
        need(text == 0 || text == 1, new IndexOutOfBoundsException());
        boolean fits = texts[text].length() < (text == 0 ? 240 : 160) && (c == 10 || c >= 32 && c <= 126);
        texts[text] += fits ? String.valueOf(c) : "";
        return fits;
    }

    int clear(int text) {
        need(text == 0 || text == 1, new IndexOutOfBoundsException());
        int had = texts[text].length();
        texts[text] = "";
        return had;
    }

    int sample(int k) {
        need(k >= 0 && k <= 2, new IllegalArgumentException());
        texts[0] = SAMPLES[k];
        return texts[0].length();
    }

    int compile() {
        tree = null;
        kept = null;
        language = new TwinLanguage(texts[0]);
        int answer = language.check();
        good = answer == 0;
        return answer;
    }

    long rule(int r, int what) {
        need(language.fault == 0, new IllegalStateException());
        need(r >= 0 && r < language.rules.size(), new IndexOutOfBoundsException());
        need(what >= 0 && what <= 3, new IllegalArgumentException());
        String name = language.rules.get(r).name();
        int height = language.heights.get(name);
        return switch (what) {
            case 0 -> bits(language.starts.get(name));
            case 1 -> bits(language.follows.get(name));
            case 2 -> language.voids.contains(name) ? 1 : 0;
            default -> height == TwinLanguage.INFINITE ? -1 : height;
        };
    }

    private static long bits(Set<Integer> kinds) {
        return kinds.stream().mapToLong(kind -> 1L << kind).sum();
    }

    int parse() {
        need(good, new IllegalStateException());
        try {
            tree = new TwinReading(language, texts[1]).read();
            return tree.nodes().size();
        } catch (TwinReading.Fault fault) {
            return -1 - fault.place;
        }
    }

    int grow(long x, int fuel) {
        need(fuel >= 0 && fuel <= 20, new IllegalArgumentException());
        need(good, new IllegalStateException());
        tree = new TwinGrowing(language, x, fuel).grow();
        return tree.nodes().size();
    }

    long node(int k, int what) {
        need(k >= 0 && k < count(5), new NoSuchElementException());
        need(what >= 0 && what <= 3, new IllegalArgumentException());
        List<TwinTree> nodes = tree.nodes();
        TwinTree node = nodes.get(k);
        int whole = -1;
        for (int n = 0; n < k; n++) {
            whole = nodes.get(n).parts.contains(node) ? n : whole;
        }
        return new long[] {node.kind, node.value, whole, node.nodes().size() - 1}[what];
    }

    boolean set(int k, long v) {
        need(k >= 0 && k < count(5), new NoSuchElementException());
        TwinTree node = tree.nodes().get(k);
        boolean fits = node.kind == 2 && v >= 0 && v <= 9999;
        if (node.kind == 3 && v > 0) {
            String letters = TwinTree.letters(v);
            fits = letters.matches("[a-z]{1,6}") && !language.literals.contains("\"" + letters + "\"");
        }
        node.value = fits ? (int) v : node.value;
        return fits;
    }

    int print() {
        need(tree != null, new IllegalStateException());
        String text = new TwinPrinting(language).print(tree);
        need(text.length() <= 160, new UnsupportedOperationException());
        output = text;
        return output.length();
    }

    char output(int k) {
        need(k >= 0 && k < output.length(), new IndexOutOfBoundsException());
        return output.charAt(k);
    }

    int carry() {
        texts[1] = output;
        return output.length();
    }

    boolean keep() {
        kept = tree == null ? kept : tree.copy();
        return tree != null;
    }

    int compare() {
        need(tree != null && kept != null, new IllegalStateException());
        return tree.against(kept);
    }

    int count(int what) {
        boolean readable = language.fault == 0;
        return switch (what) {
            case 0, 1 -> texts[what].length();
            case 2 -> output.length();
            case 3 -> readable ? language.rules.size() : 0;
            case 4 -> readable ? language.literals.size() : 0;
            case 5 -> tree == null ? 0 : tree.nodes().size();
            case 6 -> kept == null ? 0 : kept.nodes().size();
            default -> -1;
        };
    }
}
