import java.util.NoSuchElementException;

/** A desk for languages that are described once, and read and written by the same description. */
public final class TwoWayGrammar {
    private static final int DESCRIPTION_ROOM = 240;
    private static final int INPUT_ROOM = 160;

    private static final int RULES = 10;
    private static final int PARTS = 60;
    private static final int LITERALS = 20;
    private static final int OPEN_GROUPS = 4;
    private static final int CHOICES = 6;
    /** The forms of rules come first, one for each number of a rule, then those of groups. */
    private static final int FORMS = RULES + PARTS;
    /** Every alternative has a part of its own, but for those that a fault has cut off. */
    private static final int ALTERNATIVES = PARTS + OPEN_GROUPS + 2;

    private static final int NODES = 100;
    private static final int USES = 12;
    /** Each use that is open has its rule's form and the groups in it. */
    private static final int DEEPEST = USES * (OPEN_GROUPS + 1);
    /** A many has a token in each of its turns, so no input has more. */
    private static final int MOST_TIMES = INPUT_ROOM + 1;
    /** Each pass but the last one changes a bit of a set or a height: far fewer than this. */
    private static final int PASSES = 100000;

    private static final int NUMBERS = 10000;
    private static final int NUMBER_DIGITS = 4;
    private static final int NAME_LETTERS = 6;
    private static final int KEYWORD_LETTERS = 5;
    private static final int MOST_FUEL = 20;

    private static final int NONE = -1;
    private static final int INFINITE = 1000;

    /** Sorts of parts, which are the sorts of the tokens that they begin with, too. */
    private static final int NUMBER_PART = 1;
    private static final int NAME_PART = 2;
    private static final int EMPTY_PART = 3;
    private static final int BLANK_PART = 4;
    private static final int LINE_PART = 5;
    private static final int DEEPER_PART = 6;
    private static final int BACK_PART = 7;
    private static final int LITERAL_PART = 8;
    private static final int USE_PART = 9;
    private static final int GROUP_PART = 10;
    /** The other tokens of a description; a mark's sort is its character. */
    private static final int END_TOKEN = 0;
    private static final int DIGIT_TOKEN = 11;
    private static final int NO_TOKEN = 12;

    /** Kinds of tokens of an input. */
    private static final int END_KIND = 0;
    private static final int NUMBER_KIND = 1;
    private static final int NAME_KIND = 2;
    private static final int LITERAL_KIND = 3;

    /** Kinds of nodes; how a part is repeated is told by the kind of the node that it has then. */
    private static final int ONCE = 0;
    private static final int USE_NODE = 1;
    private static final int NUMBER_NODE = 2;
    private static final int NAME_NODE = 3;
    private static final int CHOICE_NODE = 4;
    private static final int MANY = 5;
    private static final int MAYBE = 6;

    private static final String SAMPLE_0 =
        "E = T ( ( '+ | '- ) T )* ;\nT = F ( ( '* | '/ ) F )* ;\nF = number | name | '( E ') ;\n";
    private static final String SAMPLE_1 =
        "P = '{ deeper ( line S )* back line '} ;\nS = \"let\" name blank '= blank V '; | \"do\" P | \"put\" V '; ;\nV = name | number + 1 | '- V ;\n";
    private static final String SAMPLE_2 =
        "D = '[ ( R ( ', blank R )* )? '] ;\nR = name ': ( number ~ U ) ;\nU = '# name? | '$ | empty ;\n";

    private final Text description = new Text(DESCRIPTION_ROOM);
    private final Text input = new Text(INPUT_ROOM);
    private final Text output = new Text(INPUT_ROOM);
    private final Text draft = new Text(INPUT_ROOM);
    private final Grammar grammar = new Grammar();
    private final Reader reader = new Reader(new Tokens(description), grammar);
    private final Sets sets = new Sets(grammar);
    private final Checks checks = new Checks(grammar, sets);
    private final Tree tree = new Tree();
    private final Tree kept = new Tree();
    private final Tree fresh = new Tree();
    private final Parsing parsing = new Parsing(grammar, sets, fresh, input);
    private final Growing growing = new Growing(grammar, sets, fresh);
    private final Printing printing = new Printing(grammar, sets, tree, draft);
    private boolean readable;
    private boolean good;

    public TwoWayGrammar() {
    }

    public boolean type(int text, char c) throws IndexOutOfBoundsException {
        if (text != 0 && text != 1) {
            throw new IndexOutOfBoundsException("no such text");
        }
        return text(text).append(c);
    }

    public int clear(int text) throws IndexOutOfBoundsException {
        if (text != 0 && text != 1) {
            throw new IndexOutOfBoundsException("no such text");
        }
        int had = text(text).length();
        text(text).drop();
        return had;
    }

    public int sample(int k) throws IllegalArgumentException {
        if (k < 0 || k > 2) {
            throw new IllegalArgumentException("no such sample");
        }
        description.drop();
        description.appendAll(k == 0 ? SAMPLE_0 : k == 1 ? SAMPLE_1 : SAMPLE_2);
        return description.length();
    }

    public int compile() {
        tree.drop();
        kept.drop();
        int answer = reader.read();
        readable = answer == 0;
        if (readable) {
            sets.work();
            answer = checks.firstFault();
        }
        good = answer == 0;
        return answer;
    }

    public long rule(int r, int what)
            throws IllegalStateException, IndexOutOfBoundsException, IllegalArgumentException {
        if (!readable) {
            throw new IllegalStateException("no description that can be read");
        }
        if (r < 0 || r >= grammar.rules) {
            throw new IndexOutOfBoundsException("no such rule");
        }
        switch (what) {
            case 0:
                return at(sets.formStarts, r);
            case 1:
                return at(sets.formFollows, r);
            case 2:
                return at(sets.formVoid, r);
            case 3:
                return sets.isFinite(r) ? sets.ruleHeight(r) : -1;
            default:
                throw new IllegalArgumentException("nothing that a rule has");
        }
    }

    public int parse() throws IllegalStateException, UnsupportedOperationException {
        if (!good) {
            throw new IllegalStateException("no good description");
        }
        parsing.walk();
        if (parsing.overLimit) {
            throw new UnsupportedOperationException("too many nodes or uses");
        }
        if (parsing.faultPlace != NONE) {
            return -1 - parsing.faultPlace;
        }
        tree.takeOver(fresh);
        return tree.nodes;
    }

    public int grow(long x, int fuel)
            throws IllegalArgumentException, IllegalStateException, UnsupportedOperationException {
        if (fuel < 0 || fuel > MOST_FUEL) {
            throw new IllegalArgumentException("no such fuel");
        }
        if (!good) {
            throw new IllegalStateException("no good description");
        }
        growing.fill(x, fuel);
        growing.walk();
        if (growing.overLimit) {
            throw new UnsupportedOperationException("too many nodes or uses");
        }
        tree.takeOver(fresh);
        return tree.nodes;
    }

    public long node(int k, int what) throws NoSuchElementException, IllegalArgumentException {
        if (k < 0 || k >= tree.nodes) {
            throw new NoSuchElementException("no such node");
        }
        switch (what) {
            case 0:
                return at(tree.kinds, k);
            case 1:
                return at(tree.values, k);
            case 2:
                return tree.parent(k);
            case 3:
                return at(tree.sizes, k);
            default:
                throw new IllegalArgumentException("nothing that a node has");
        }
    }

    public boolean set(int k, long v) throws NoSuchElementException {
        if (k < 0 || k >= tree.nodes) {
            throw new NoSuchElementException("no such node");
        }
        int kind = at(tree.kinds, k);
        boolean fits = kind == NUMBER_NODE && v >= 0 && v < NUMBERS
            || kind == NAME_NODE && isName(v) && grammar.literal((int) v) == NONE;
        if (fits) {
            put(tree.values, k, (int) v);
        }
        return fits;
    }

    public int print() throws IllegalStateException, UnsupportedOperationException {
        if (tree.nodes == 0) {
            throw new IllegalStateException("no tree");
        }
        printing.walk();
        if (printing.tooLong) {
            throw new UnsupportedOperationException("too many characters");
        }
        output.takeOver(draft);
        return output.length();
    }

    public char output(int k) throws IndexOutOfBoundsException {
        if (k < 0 || k >= output.length()) {
            throw new IndexOutOfBoundsException("no such character");
        }
        return output.at(k);
    }

    public int carry() {
        input.takeOver(output);
        return input.length();
    }

    public boolean keep() {
        if (tree.nodes == 0) {
            return false;
        }
        kept.takeOver(tree);
        return true;
    }

    public int compare() throws IllegalStateException {
        if (tree.nodes == 0 || kept.nodes == 0) {
            throw new IllegalStateException("not two trees");
        }
        return tree.against(kept);
    }

    public int count(int what) {
        switch (what) {
            case 0:
                return description.length();
            case 1:
                return input.length();
            case 2:
                return output.length();
            case 3:
                return readable ? grammar.rules : 0;
            case 4:
                return readable ? grammar.literals : 0;
            case 5:
                return tree.nodes;
            case 6:
                return kept.nodes;
            default:
                return -1;
        }
    }

    private Text text(int number) {
        return number == 0 ? description : input;
    }

    /** Rows are read and written through these, so that no index is ever used untested. */
    private static int at(int[] row, int k) {
        return k >= 0 && k < row.length ? row[k] : 0;
    }

    private static long at(long[] row, int k) {
        return k >= 0 && k < row.length ? row[k] : 0;
    }

    private static void put(int[] row, int k, int value) {
        if (k >= 0 && k < row.length) {
            row[k] = value;
        }
    }

    private static void put(long[] row, int k, long value) {
        if (k >= 0 && k < row.length) {
            row[k] = value;
        }
    }

    private static boolean isSmall(int c) {
        return c >= 'a' && c <= 'z';
    }

    private static boolean isCapital(int c) {
        return c >= 'A' && c <= 'Z';
    }

    private static boolean isDigit(int c) {
        return c >= '0' && c <= '9';
    }

    private static boolean isBlank(int c) {
        return c == ' ' || c == '\n';
    }

    /** Whether a value is the letters of a name: five bits each, from the lowest on, no gap between. */
    private static boolean isName(long value) {
        if (value <= 0 || value >= 1L << 5 * NAME_LETTERS) {
            return false;
        }
        long rest = value;
        for (int n = 0; n < NAME_LETTERS && rest != 0; n++) {
            long letter = rest & 31;
            if (letter < 1 || letter > 26) {
                return false;
            }
            rest >>>= 5;
        }
        return true;
    }

    /** Characters in a row, of those that the document allows. */
    private static final class Text {
        private final char[] chars;
        private int length;

        Text(int room) {
            chars = new char[Math.max(room, 0)];
        }

        int length() {
            return length;
        }

        char at(int k) {
            return k >= 0 && k < length && k < chars.length ? chars[k] : ' ';
        }

        void drop() {
            length = 0;
        }

        boolean append(char c) {
            boolean allowed = c >= ' ' && c <= '~' || c == '\n';
            if (!allowed || length < 0 || length >= chars.length) {
                return false;
            }
            chars[length] = c;
            length++;
            return true;
        }

        void appendAll(String characters) {
            for (int k = 0; k < characters.length(); k++) {
                append(characters.charAt(k));
            }
        }

        void takeOver(Text other) {
            drop();
            for (int k = 0; k < other.length(); k++) {
                append(other.at(k));
            }
        }

        int behindBlanks(int from) {
            int k = from;
            while (k < length && isBlank(at(k))) {
                k++;
            }
            return k;
        }

        int behindLetters(int from) {
            int k = from;
            while (k < length && isSmall(at(k))) {
                k++;
            }
            return k;
        }

        int behindDigits(int from) {
            int k = from;
            while (k < length && isDigit(at(k))) {
                k++;
            }
            return k;
        }

        boolean has(String word, int from, int to) {
            boolean same = to - from == word.length();
            for (int k = 0; same && k < word.length(); k++) {
                same = word.charAt(k) == at(from + k);
            }
            return same;
        }

        /** At most six letters are asked for, so that they fit in an int. */
        int letterCode(int from, int to) {
            int code = 0;
            for (int k = to - 1; k >= from; k--) {
                code = code << 5 | at(k) - 'a' + 1;
            }
            return code;
        }
    }

    /** The description's tokens, one at a time. */
    private static final class Tokens {
        private final Text text;
        private int place;
        /** The first character of the token. */
        int start;
        int sort;
        /** A literal's code, a letter, or a digit's worth. */
        int code;

        Tokens(Text text) {
            this.text = text;
        }

        void rewind() {
            place = 0;
            advance();
        }

        void advance() {
            start = text.behindBlanks(place);
            place = start;
            code = 0;
            char c = text.at(start);
            if (start >= text.length()) {
                sort = END_TOKEN;
            } else if (isSmall(c)) {
                takeWord();
            } else if (c == '"') {
                takeKeyword();
            } else if (c == '\'') {
                takeSign();
            } else {
                takeCharacter(c);
            }
        }

        /** Whether a part can begin with this token. */
        boolean beginsPart() {
            return sort >= NUMBER_PART && sort <= GROUP_PART;
        }

        private void takeWord() {
            place = text.behindLetters(start);
            if (text.has("number", start, place)) {
                sort = NUMBER_PART;
            } else if (text.has("name", start, place)) {
                sort = NAME_PART;
            } else if (text.has("empty", start, place)) {
                sort = EMPTY_PART;
            } else if (text.has("blank", start, place)) {
                sort = BLANK_PART;
            } else if (text.has("line", start, place)) {
                sort = LINE_PART;
            } else if (text.has("deeper", start, place)) {
                sort = DEEPER_PART;
            } else if (text.has("back", start, place)) {
                sort = BACK_PART;
            } else {
                sort = NO_TOKEN;
            }
        }

        private void takeKeyword() {
            int end = text.behindLetters(start + 1);
            int letters = end - start - 1;
            if (letters < 1 || letters > KEYWORD_LETTERS || text.at(end) != '"') {
                sort = NO_TOKEN;
                return;
            }
            sort = LITERAL_PART;
            code = text.letterCode(start + 1, end);
            place = end + 1;
        }

        private void takeSign() {
            char c = text.at(start + 1);
            if (isBlank(c) || isSmall(c) || isCapital(c) || isDigit(c)) {
                sort = NO_TOKEN;
                return;
            }
            sort = LITERAL_PART;
            code = signCode(c);
            place = start + 2;
        }

        private void takeCharacter(char c) {
            place = start + 1;
            if (isCapital(c)) {
                sort = USE_PART;
                code = c;
            } else if (isDigit(c)) {
                sort = DIGIT_TOKEN;
                code = c - '0';
            } else if (c == '(') {
                sort = GROUP_PART;
            } else if ("=;|*?)~+".indexOf(c) >= 0) {
                sort = c;
            } else {
                sort = NO_TOKEN;
            }
        }
    }

    /** A sign's code is below 0, that of letters above, so that all literals have codes of their own. */
    private static int signCode(char c) {
        return -c;
    }

    /** The description in use: rules, forms, alternatives, parts and literals, in rows. */
    private static final class Grammar {
        int rules;
        final int[] ruleName = new int[RULES];
        final int[] rulePlace = new int[RULES];
        final int[] formFirst = new int[FORMS];
        final int[] formSize = new int[FORMS];
        private int groups;
        private int alternatives;
        final int[] alternativeFirst = new int[ALTERNATIVES];
        final int[] alternativeNext = new int[ALTERNATIVES];
        final int[] alternativePlace = new int[ALTERNATIVES];
        int parts;
        final int[] partSort = new int[PARTS];
        /** The digit behind +, a literal's number, a use's rule, a group's form. */
        final int[] partValue = new int[PARTS];
        final int[] partPlace = new int[PARTS];
        final int[] partNext = new int[PARTS];
        final int[] partRepeat = new int[PARTS];
        final int[] partMark = new int[PARTS];
        /** Whether it is the first one of a swapped pair (1, 0). */
        final int[] partSwapped = new int[PARTS];
        int literals;
        final int[] literalCode = new int[LITERALS];

        void drop() {
            rules = 0;
            groups = 0;
            alternatives = 0;
            parts = 0;
            literals = 0;
            for (int form = 0; form < FORMS; form++) {
                put(formFirst, form, NONE);
                put(formSize, form, 0);
            }
        }

        int ruleNamed(int letter) {
            for (int r = 0; r < rules; r++) {
                if (at(ruleName, r) == letter) {
                    return r;
                }
            }
            return NONE;
        }

        int literal(int code) {
            for (int n = 0; n < literals; n++) {
                if (at(literalCode, n) == code) {
                    return n;
                }
            }
            return NONE;
        }

        int addRule(int letter, int place) {
            put(ruleName, rules, letter);
            put(rulePlace, rules, place);
            rules++;
            return rules - 1;
        }

        int addGroup() {
            groups++;
            return RULES + groups - 1;
        }

        int addLiteral(int code) {
            int known = literal(code);
            if (known != NONE) {
                return known;
            }
            put(literalCode, literals, code);
            literals++;
            return literals - 1;
        }

        int addAlternative(int form, int before, int place) {
            int alternative = alternatives;
            alternatives++;
            put(alternativeFirst, alternative, NONE);
            put(alternativeNext, alternative, NONE);
            put(alternativePlace, alternative, place);
            put(formSize, form, at(formSize, form) + 1);
            if (before == NONE) {
                put(formFirst, form, alternative);
            } else {
                put(alternativeNext, before, alternative);
            }
            return alternative;
        }

        int addPart(int sort, int value, int place) {
            int part = parts;
            parts++;
            put(partSort, part, sort);
            put(partValue, part, value);
            put(partPlace, part, place);
            put(partNext, part, NONE);
            put(partRepeat, part, ONCE);
            put(partMark, part, place);
            put(partSwapped, part, 0);
            return part;
        }

        void attach(int alternative, int before, int part) {
            if (before == NONE) {
                put(alternativeFirst, alternative, part);
            } else {
                put(partNext, before, part);
            }
        }

        /** The form in a use or a group; none in the other parts. */
        int formIn(int part) {
            int sort = at(partSort, part);
            return sort == USE_PART || sort == GROUP_PART ? at(partValue, part) : NONE;
        }

        int alternativeOf(int form, int which) {
            int alternative = at(formFirst, form);
            for (int n = 0; n < which && n < CHOICES; n++) {
                alternative = at(alternativeNext, alternative);
            }
            return alternative;
        }
    }

    /** Reads the description into the grammar, up to its first fault of 1 to 4. */
    private static final class Reader {
        private final Tokens tokens;
        private final Grammar grammar;
        private int fault;
        private int faultPlace;

        Reader(Tokens tokens, Grammar grammar) {
            this.tokens = tokens;
            this.grammar = grammar;
        }

        /** 0, or the fault + 16 * its place. */
        int read() {
            grammar.drop();
            fault = 0;
            faultPlace = 0;
            tokens.rewind();
            for (int n = 0; n <= RULES && fault == 0 && (n == 0 || tokens.sort != END_TOKEN); n++) {
                int form = beginRule();
                expect('=');
                readForm(form, 0);
                expect(';');
            }
            if (fault == 0) {
                nameUses();
            }
            return fault + 16 * faultPlace;
        }

        private void blame(int number, int place) {
            fault = number;
            faultPlace = place;
        }

        private void expect(int mark) {
            if (fault != 0) {
                return;
            }
            if (tokens.sort != mark) {
                blame(1, tokens.start);
                return;
            }
            tokens.advance();
        }

        /** The form of a rule that begins here; none if it can't. */
        private int beginRule() {
            if (tokens.sort != USE_PART) {
                blame(1, tokens.start);
            } else if (grammar.ruleNamed(tokens.code) != NONE) {
                blame(2, tokens.start);
            } else if (grammar.rules >= RULES) {
                blame(3, tokens.start);
            }
            if (fault != 0) {
                return NONE;
            }
            int form = grammar.addRule(tokens.code, tokens.start);
            tokens.advance();
            return form;
        }

        private void readForm(int form, int open) {
            boolean more = fault == 0 && open <= OPEN_GROUPS;
            int bar = tokens.start;
            int last = NONE;
            for (int n = 1; more && n <= CHOICES; n++) {
                last = grammar.addAlternative(form, last, bar);
                readItems(last, open);
                more = fault == 0 && tokens.sort == '|';
                bar = tokens.start;
                if (more && n == CHOICES) {
                    blame(3, bar);
                } else if (more) {
                    tokens.advance();
                }
            }
        }

        private void readItems(int alternative, int open) {
            boolean more = true;
            boolean second = false;
            int last = NONE;
            for (int n = 0; more && n <= PARTS; n++) {
                last = readUnit(alternative, last, open);
                second = !second && fault == 0 && tokens.sort == '~';
                if (second) {
                    put(grammar.partSwapped, last, 1);
                    tokens.advance();
                }
                more = fault == 0 && (second || tokens.beginsPart());
            }
        }

        private int readUnit(int alternative, int before, int open) {
            if (!tokens.beginsPart()) {
                blame(1, tokens.start);
                return NONE;
            }
            if (isOneTooMany(open)) {
                blame(3, tokens.start);
                return NONE;
            }
            int part = readPart(open);
            grammar.attach(alternative, before, part);
            if (fault == 0 && (tokens.sort == '*' || tokens.sort == '?')) {
                put(grammar.partRepeat, part, tokens.sort == '*' ? MANY : MAYBE);
                put(grammar.partMark, part, tokens.start);
                tokens.advance();
            }
            return part;
        }

        private boolean isOneTooMany(int open) {
            boolean newLiteral = tokens.sort == LITERAL_PART && grammar.literal(tokens.code) == NONE;
            return grammar.parts >= PARTS
                || tokens.sort == GROUP_PART && open >= OPEN_GROUPS
                || newLiteral && grammar.literals >= LITERALS;
        }

        private int readPart(int open) {
            int sort = tokens.sort;
            int part = grammar.addPart(sort, tokens.code, tokens.start);
            if (sort == LITERAL_PART) {
                put(grammar.partValue, part, grammar.addLiteral(tokens.code));
            }
            tokens.advance();
            if (sort == NUMBER_PART && tokens.sort == '+') {
                tokens.advance();
                put(grammar.partValue, part, tokens.code);
                expect(DIGIT_TOKEN);
            } else if (sort == GROUP_PART) {
                int form = grammar.addGroup();
                put(grammar.partValue, part, form);
                readForm(form, open + 1);
                expect(')');
            }
            return part;
        }

        /** Rules may be used before they are described, so their numbers are known only at the end. */
        private void nameUses() {
            for (int part = 0; part < grammar.parts && fault == 0; part++) {
                if (at(grammar.partSort, part) == USE_PART) {
                    int rule = grammar.ruleNamed(at(grammar.partValue, part));
                    put(grammar.partValue, part, rule);
                    if (rule == NONE) {
                        blame(4, at(grammar.partPlace, part));
                    }
                }
            }
        }
    }

    /** What forms and alternatives begin with and what follows them, whether they may be void, how high they are. */
    private static final class Sets {
        private final Grammar grammar;
        final int[] formVoid = new int[FORMS];
        final long[] formStarts = new long[FORMS];
        final long[] formFollows = new long[FORMS];
        private final int[] formHeight = new int[FORMS];
        /** The rules with a use of which it may begin, bit r for rule r. */
        final int[] formBegins = new int[FORMS];
        private final int[] alternativeVoid = new int[ALTERNATIVES];
        private final long[] alternativeStarts = new long[ALTERNATIVES];
        private final int[] alternativeBegins = new int[ALTERNATIVES];
        final int[] alternativeHeight = new int[ALTERNATIVES];
        final long[] directors = new long[ALTERNATIVES];
        /** Of parts by themselves, whether they are repeated or not. */
        final int[] partVoid = new int[PARTS];
        final long[] partStarts = new long[PARTS];
        final long[] partFollows = new long[PARTS];
        /** How many nodes it has that stand in no other node of it. */
        final int[] partTops = new int[PARTS];
        private boolean changed;

        Sets(Grammar grammar) {
            this.grammar = grammar;
        }

        void work() {
            for (int form = 0; form < FORMS; form++) {
                put(formVoid, form, 0);
                put(formStarts, form, 0L);
                put(formFollows, form, form == 0 ? 1L << END_KIND : 0L);
                put(formHeight, form, INFINITE);
                put(formBegins, form, 0);
            }
            spreadStarts();
            spreadFollows();
            findDirectors();
            findTops();
        }

        boolean isFinite(int rule) {
            return at(formHeight, rule) < INFINITE;
        }

        int ruleHeight(int rule) {
            return at(formHeight, rule) + 1;
        }

        private void refreshPart(int part) {
            int form = grammar.formIn(part);
            if (form != NONE) {
                put(partVoid, part, at(formVoid, form));
                put(partStarts, part, at(formStarts, form));
                return;
            }
            int sort = at(grammar.partSort, part);
            put(partVoid, part, sort >= EMPTY_PART && sort <= BACK_PART ? 1 : 0);
            put(partStarts, part, 0L);
            if (sort == NUMBER_PART) {
                put(partStarts, part, 1L << NUMBER_KIND);
            } else if (sort == NAME_PART) {
                put(partStarts, part, 1L << NAME_KIND);
            } else if (sort == LITERAL_PART) {
                put(partStarts, part, 1L << LITERAL_KIND + at(grammar.partValue, part));
            }
        }

        private boolean mayBePassed(int part) {
            return at(grammar.partRepeat, part) != ONCE || at(partVoid, part) == 1;
        }

        private int begins(int part) {
            int form = grammar.formIn(part);
            if (form == NONE) {
                return 0;
            }
            int self = at(grammar.partSort, part) == USE_PART ? 1 << form : 0;
            return self | at(formBegins, form);
        }

        private int height(int part) {
            int form = grammar.formIn(part);
            if (form == NONE || at(grammar.partRepeat, part) != ONCE) {
                return 0;
            }
            int height = at(formHeight, form);
            return at(grammar.partSort, part) == USE_PART ? Math.min(INFINITE, height + 1) : height;
        }

        private void spreadStarts() {
            changed = true;
            for (int pass = 0; changed && pass < PASSES; pass++) {
                changed = false;
                for (int form = FORMS - 1; form >= 0; form--) {
                    refreshForm(form);
                }
            }
        }

        private void refreshForm(int form) {
            int isVoid = 0;
            long starts = 0;
            int begins = 0;
            int height = INFINITE;
            int alternative = at(grammar.formFirst, form);
            for (int n = 0; n < at(grammar.formSize, form) && n < CHOICES; n++) {
                refreshAlternative(alternative);
                isVoid |= at(alternativeVoid, alternative);
                starts |= at(alternativeStarts, alternative);
                begins |= at(alternativeBegins, alternative);
                height = Math.min(height, at(alternativeHeight, alternative));
                alternative = at(grammar.alternativeNext, alternative);
            }
            changed = changed || isVoid != at(formVoid, form) || starts != at(formStarts, form)
                || begins != at(formBegins, form) || height != at(formHeight, form);
            put(formVoid, form, isVoid);
            put(formStarts, form, starts);
            put(formBegins, form, begins);
            put(formHeight, form, height);
        }

        private void refreshAlternative(int alternative) {
            boolean isVoid = true;
            long starts = 0;
            int begins = 0;
            int height = 0;
            int part = at(grammar.alternativeFirst, alternative);
            for (int n = 0; part != NONE && n < PARTS; n++) {
                refreshPart(part);
                if (isVoid) {
                    starts |= at(partStarts, part);
                    begins |= begins(part);
                }
                isVoid = isVoid && mayBePassed(part);
                height = Math.max(height, height(part));
                part = at(grammar.partNext, part);
            }
            put(alternativeVoid, alternative, isVoid ? 1 : 0);
            put(alternativeStarts, alternative, starts);
            put(alternativeBegins, alternative, begins);
            put(alternativeHeight, alternative, height);
        }

        private void spreadFollows() {
            changed = true;
            for (int pass = 0; changed && pass < PASSES; pass++) {
                changed = false;
                for (int form = 0; form < FORMS; form++) {
                    int alternative = at(grammar.formFirst, form);
                    for (int n = 0; n < at(grammar.formSize, form) && n < CHOICES; n++) {
                        spreadInto(alternative, at(formFollows, form));
                        alternative = at(grammar.alternativeNext, alternative);
                    }
                }
            }
        }

        private void spreadInto(int alternative, long behind) {
            int part = at(grammar.alternativeFirst, alternative);
            for (int n = 0; part != NONE && n < PARTS; n++) {
                int next = at(grammar.partNext, part);
                long follows = startsFrom(next, behind);
                put(partFollows, part, follows);
                long within = at(grammar.partRepeat, part) == MANY ? follows | at(partStarts, part) : follows;
                int form = grammar.formIn(part);
                if (form != NONE && (within & ~at(formFollows, form)) != 0) {
                    put(formFollows, form, at(formFollows, form) | within);
                    changed = true;
                }
                part = next;
            }
        }

        /** The starts of a part and those behind it in its alternative; if all may be void, what is behind, too. */
        private long startsFrom(int first, long behind) {
            long starts = 0;
            boolean isVoid = true;
            int part = first;
            for (int n = 0; isVoid && part != NONE && n < PARTS; n++) {
                starts |= at(partStarts, part);
                isVoid = mayBePassed(part);
                part = at(grammar.partNext, part);
            }
            return isVoid ? starts | behind : starts;
        }

        private void findDirectors() {
            for (int form = 0; form < FORMS; form++) {
                int alternative = at(grammar.formFirst, form);
                for (int n = 0; n < at(grammar.formSize, form) && n < CHOICES; n++) {
                    long behind = at(alternativeVoid, alternative) == 1 ? at(formFollows, form) : 0;
                    put(directors, alternative, at(alternativeStarts, alternative) | behind);
                    alternative = at(grammar.alternativeNext, alternative);
                }
            }
        }

        /** A group's parts have greater numbers than the group, so they are done before it. */
        private void findTops() {
            for (int part = grammar.parts - 1; part >= 0; part--) {
                int sort = at(grammar.partSort, part);
                int tops = sort == NUMBER_PART || sort == NAME_PART || sort == USE_PART ? 1 : 0;
                if (sort == GROUP_PART) {
                    tops = groupTops(at(grammar.partValue, part));
                }
                put(partTops, part, at(grammar.partRepeat, part) == ONCE ? tops : 1);
            }
        }

        private int groupTops(int form) {
            if (at(grammar.formSize, form) > 1) {
                return 1;
            }
            int tops = 0;
            int part = at(grammar.alternativeFirst, at(grammar.formFirst, form));
            for (int n = 0; part != NONE && n < PARTS; n++) {
                tops += at(partTops, part);
                part = at(grammar.partNext, part);
            }
            return tops;
        }
    }

    /** Finds the first fault of 5 to 9 in a description that could be read. */
    private static final class Checks {
        private final Grammar grammar;
        private final Sets sets;
        private int found;

        Checks(Grammar grammar, Sets sets) {
            this.grammar = grammar;
            this.sets = sets;
        }

        int firstFault() {
            found = 0;
            checkRules();
            checkRepeats();
            for (int form = 0; form < FORMS; form++) {
                checkChoice(form);
            }
            return found;
        }

        /** The answers stand in the order of places, then of numbers: the least one counts. */
        private void blame(int number, int place) {
            int answer = number + 16 * place;
            if (found == 0 || answer < found) {
                found = answer;
            }
        }

        private void checkRules() {
            for (int r = 0; r < grammar.rules; r++) {
                int place = at(grammar.rulePlace, r);
                if ((at(sets.formBegins, r) >> r & 1) != 0) {
                    blame(5, place);
                }
                if (!sets.isFinite(r)) {
                    blame(6, place);
                }
            }
        }

        private void checkRepeats() {
            for (int part = 0; part < grammar.parts; part++) {
                if (at(grammar.partRepeat, part) != ONCE) {
                    int place = at(grammar.partMark, part);
                    if (at(sets.partVoid, part) == 1) {
                        blame(7, place);
                    }
                    if ((at(sets.partStarts, part) & at(sets.partFollows, part)) != 0) {
                        blame(9, place);
                    }
                }
            }
        }

        private void checkChoice(int form) {
            long before = 0;
            int alternative = at(grammar.formFirst, form);
            for (int n = 0; n < at(grammar.formSize, form) && n < CHOICES; n++) {
                long directors = at(sets.directors, alternative);
                if ((directors & before) != 0) {
                    blame(8, at(grammar.alternativePlace, alternative));
                }
                before |= directors;
                alternative = at(grammar.alternativeNext, alternative);
            }
        }
    }

    /** Nodes in their order, each with how many stand in it; no nodes are no tree. */
    private static final class Tree {
        int nodes;
        final int[] kinds = new int[NODES];
        final int[] values = new int[NODES];
        final int[] sizes = new int[NODES];

        void drop() {
            nodes = 0;
        }

        /** The node's number, or none when the tree is full. */
        int add(int kind, int value) {
            if (nodes >= NODES) {
                return NONE;
            }
            put(kinds, nodes, kind);
            put(values, nodes, value);
            put(sizes, nodes, 0);
            nodes++;
            return nodes - 1;
        }

        void finish(int k) {
            put(sizes, k, nodes - 1 - k);
        }

        int parent(int k) {
            for (int above = k - 1; above >= 0; above--) {
                if (above + at(sizes, above) >= k) {
                    return above;
                }
            }
            return NONE;
        }

        /** The place behind some nodes that stand side by side, with all that is in them. */
        int behind(int from, int howMany) {
            int k = from;
            for (int n = 0; n < howMany && k < nodes; n++) {
                k += 1 + at(sizes, k);
            }
            return k;
        }

        /** The nodes from middle on come ahead of those from start on. */
        void exchange(int start, int middle) {
            turnRound(start, middle);
            turnRound(middle, nodes);
            turnRound(start, nodes);
        }

        private void turnRound(int from, int to) {
            int left = from;
            int right = to - 1;
            while (left < right) {
                exchangeIn(kinds, left, right);
                exchangeIn(values, left, right);
                exchangeIn(sizes, left, right);
                left++;
                right--;
            }
        }

        private static void exchangeIn(int[] row, int left, int right) {
            int value = at(row, left);
            put(row, left, at(row, right));
            put(row, right, value);
        }

        void takeOver(Tree other) {
            nodes = other.nodes;
            for (int k = 0; k < nodes; k++) {
                put(kinds, k, at(other.kinds, k));
                put(values, k, at(other.values, k));
                put(sizes, k, at(other.sizes, k));
            }
        }

        int against(Tree other) {
            for (int k = 0; k < nodes && k < other.nodes; k++) {
                int order = Integer.compare(at(kinds, k), at(other.kinds, k));
                if (order == 0) {
                    order = Integer.compare(at(values, k), at(other.values, k));
                }
                if (order != 0) {
                    return order < 0 ? -1 : 1;
                }
            }
            return nodes == other.nodes ? 0 : nodes < other.nodes ? -1 : 1;
        }
    }

    /** Goes through the description in the order of the text; as it stands here, a tree is made on the way. */
    private abstract static class Walk {
        final Grammar grammar;
        final Sets sets;
        final Tree tree;
        boolean stopped;
        boolean overLimit;
        private int uses;

        Walk(Grammar grammar, Sets sets, Tree tree) {
            this.grammar = grammar;
            this.sets = sets;
            this.tree = tree;
        }

        abstract void begin();

        void end() {
        }

        /** Which alternative of a choice is taken. */
        abstract int chosen(int form);

        /** Does what a part without a form asks for. */
        abstract void leaf(int part);

        /** How often a part that may be repeated will be, as far as this is known ahead. */
        int timesAhead(int repeat) {
            return 0;
        }

        boolean goesOn(int part, int node, int times) {
            return times < at(tree.values, node);
        }

        void useBegins() {
        }

        int enter(int kind, int value) {
            int node = tree.add(kind, value);
            if (node == NONE) {
                passLimit();
            }
            return node;
        }

        void leave(int node) {
            tree.finish(node);
        }

        int pairBegins(int second) {
            return tree.nodes;
        }

        int pairTurns(int start) {
            return tree.nodes;
        }

        void pairEnds(int start, int middle) {
            tree.exchange(start, middle);
        }

        final void walk() {
            stopped = false;
            overLimit = false;
            uses = 0;
            begin();
            if (!stopped) {
                walkUse(0, 0);
            }
            if (!stopped) {
                end();
            }
        }

        final void passLimit() {
            overLimit = true;
            stopped = true;
        }

        private void walkUse(int rule, int depth) {
            if (uses >= USES) {
                passLimit();
                return;
            }
            int node = enter(USE_NODE, rule);
            uses++;
            useBegins();
            walkForm(rule, depth);
            uses--;
            leave(node);
        }

        private void walkForm(int form, int depth) {
            if (stopped || depth >= DEEPEST) {
                stopped = true;
                return;
            }
            boolean isChoice = at(grammar.formSize, form) > 1;
            int which = isChoice ? chosen(form) : 0;
            int node = isChoice && !stopped ? enter(CHOICE_NODE, which) : NONE;
            int part = at(grammar.alternativeFirst, grammar.alternativeOf(form, which));
            for (int n = 0; !stopped && part != NONE && n < PARTS; n++) {
                int last = part;
                if (at(grammar.partSwapped, part) == 1) {
                    last = at(grammar.partNext, part);
                    int start = pairBegins(last);
                    walkUnit(part, depth);
                    int middle = pairTurns(start);
                    walkUnit(last, depth);
                    pairEnds(start, middle);
                } else {
                    walkUnit(part, depth);
                }
                part = at(grammar.partNext, last);
            }
            if (node != NONE) {
                leave(node);
            }
        }

        private void walkUnit(int part, int depth) {
            int repeat = at(grammar.partRepeat, part);
            if (stopped) {
                return;
            }
            if (repeat == ONCE) {
                walkPart(part, depth);
                return;
            }
            int node = enter(repeat, timesAhead(repeat));
            int most = repeat == MANY ? MOST_TIMES : 1;
            for (int times = 0; !stopped && times < most && goesOn(part, node, times); times++) {
                walkPart(part, depth);
            }
            leave(node);
        }

        private void walkPart(int part, int depth) {
            int sort = at(grammar.partSort, part);
            if (sort == USE_PART) {
                walkUse(at(grammar.partValue, part), depth + 1);
            } else if (sort == GROUP_PART) {
                walkForm(at(grammar.partValue, part), depth + 1);
            } else {
                leaf(part);
            }
        }
    }

    /** Makes a tree of the input's tokens. */
    private static final class Parsing extends Walk {
        private final Text text;
        private int place;
        private int start;
        private int kind;
        private int worth;
        int faultPlace;

        Parsing(Grammar grammar, Sets sets, Tree tree, Text text) {
            super(grammar, sets, tree);
            this.text = text;
        }

        void begin() {
            tree.drop();
            faultPlace = NONE;
            place = 0;
            takeToken();
        }

        void end() {
            if (kind != END_KIND) {
                blame();
            }
        }

        private void blame() {
            faultPlace = start;
            stopped = true;
        }

        /** A token without a kind is at fault as soon as it is the next one, whatever would come before it is read. */
        private void takeToken() {
            start = text.behindBlanks(place);
            char c = text.at(start);
            if (start >= text.length()) {
                place = start;
                kind = END_KIND;
            } else if (isDigit(c)) {
                takeNumber();
            } else if (isSmall(c)) {
                takeWord();
            } else {
                place = start + 1;
                kind = literalOr(NONE, signCode(c));
            }
            if (kind == NONE) {
                blame();
            }
        }

        private void takeNumber() {
            place = text.behindDigits(start);
            kind = place - start <= NUMBER_DIGITS ? NUMBER_KIND : NONE;
            worth = 0;
            for (int k = start; kind == NUMBER_KIND && k < place; k++) {
                worth = worth * 10 + text.at(k) - '0';
            }
        }

        private void takeWord() {
            place = text.behindLetters(start);
            kind = NONE;
            if (place - start <= NAME_LETTERS) {
                worth = text.letterCode(start, place);
                kind = literalOr(NAME_KIND, worth);
            }
        }

        private int literalOr(int otherKind, int code) {
            int n = grammar.literal(code);
            return n == NONE ? otherKind : LITERAL_KIND + n;
        }

        private boolean isNextIn(long kinds) {
            return kind >= 0 && (kinds >>> kind & 1) != 0;
        }

        int chosen(int form) {
            int alternative = at(grammar.formFirst, form);
            for (int n = 0; n < at(grammar.formSize, form) && n < CHOICES; n++) {
                if (isNextIn(at(sets.directors, alternative))) {
                    return n;
                }
                alternative = at(grammar.alternativeNext, alternative);
            }
            blame();
            return 0;
        }

        boolean goesOn(int part, int node, int times) {
            boolean goes = isNextIn(at(sets.partStarts, part));
            if (goes) {
                put(tree.values, node, times + 1);
            }
            return goes;
        }

        void leaf(int part) {
            long wanted = at(sets.partStarts, part);
            if (wanted == 0) {
                return;
            }
            if (!isNextIn(wanted)) {
                blame();
                return;
            }
            if (kind == NUMBER_KIND) {
                enter(NUMBER_NODE, (worth + at(grammar.partValue, part)) % NUMBERS);
            } else if (kind == NAME_KIND) {
                enter(NAME_NODE, worth);
            }
            if (!stopped) {
                takeToken();
            }
        }
    }

    /** Makes a tree by draws. */
    private static final class Growing extends Walk {
        private long x;
        private int fuel;

        Growing(Grammar grammar, Sets sets, Tree tree) {
            super(grammar, sets, tree);
        }

        void fill(long seed, int fuelAhead) {
            x = seed;
            fuel = fuelAhead;
        }

        void begin() {
            tree.drop();
        }

        private int draw(int below) {
            x = x * 6364136223846793005L + 1442695040888963407L;
            return below > 0 ? (int) ((x >>> 33) % below) : 0;
        }

        void useBegins() {
            fuel--;
        }

        int chosen(int form) {
            return fuel < 0 ? lowest(form) : draw(at(grammar.formSize, form));
        }

        int timesAhead(int repeat) {
            return fuel < 0 ? 0 : draw(repeat == MANY ? 3 : 2);
        }

        private int lowest(int form) {
            int which = 0;
            int least = INFINITE;
            int alternative = at(grammar.formFirst, form);
            for (int n = 0; n < at(grammar.formSize, form) && n < CHOICES; n++) {
                if (at(sets.alternativeHeight, alternative) < least) {
                    which = n;
                    least = at(sets.alternativeHeight, alternative);
                }
                alternative = at(grammar.alternativeNext, alternative);
            }
            return which;
        }

        void leaf(int part) {
            int sort = at(grammar.partSort, part);
            if (sort == NUMBER_PART) {
                enter(NUMBER_NODE, draw(NUMBERS));
            } else if (sort == NAME_PART) {
                enter(NAME_NODE, drawName());
            }
        }

        private int drawName() {
            int letters = 1 + draw(3);
            int code = 0;
            for (int n = 0; n < letters; n++) {
                code |= 1 + draw(3) << 5 * n;
            }
            for (int n = letters; n < NAME_LETTERS && grammar.literal(code) != NONE; n++) {
                code |= 26 << 5 * n;
            }
            return code;
        }
    }

    /** Follows a tree that is there, and writes its tokens. */
    private static final class Printing extends Walk {
        private final Text text;
        private int cursor;
        private int level;
        private boolean lineCame;
        private boolean blankCame;
        private boolean wordBefore;
        boolean tooLong;

        Printing(Grammar grammar, Sets sets, Tree tree, Text text) {
            super(grammar, sets, tree);
            this.text = text;
        }

        void begin() {
            text.drop();
            cursor = 0;
            level = 0;
            lineCame = false;
            blankCame = false;
            wordBefore = false;
            tooLong = false;
        }

        int enter(int kind, int value) {
            cursor++;
            return cursor - 1;
        }

        void leave(int node) {
        }

        /** The nodes of the second one stand first in the tree, but the first one is written first. */
        int pairBegins(int second) {
            int start = cursor;
            cursor = tree.behind(start, at(sets.partTops, second));
            return start;
        }

        int pairTurns(int start) {
            int end = cursor;
            cursor = start;
            return end;
        }

        void pairEnds(int start, int end) {
            cursor = end;
        }

        int chosen(int form) {
            return at(tree.values, cursor);
        }

        void leaf(int part) {
            int value = at(grammar.partValue, part);
            switch (at(grammar.partSort, part)) {
                case NUMBER_PART:
                    writeNumber((nextValue() - value + NUMBERS) % NUMBERS);
                    break;
                case NAME_PART:
                    writeCode(nextValue());
                    break;
                case LITERAL_PART:
                    writeCode(at(grammar.literalCode, value));
                    break;
                case BLANK_PART:
                    blankCame = true;
                    break;
                case LINE_PART:
                    lineCame = true;
                    break;
                case DEEPER_PART:
                    level++;
                    break;
                case BACK_PART:
                    level = Math.max(level - 1, 0);
                    break;
                default:
                    break;
            }
        }

        private int nextValue() {
            cursor++;
            return at(tree.values, cursor - 1);
        }

        /** Writes what stands between the token before and one that begins now. */
        private void separate(boolean word) {
            if (text.length() > 0 && lineCame) {
                write('\n');
                for (int n = 0; n < 2 * level && !stopped; n++) {
                    write(' ');
                }
            } else if (text.length() > 0 && (blankCame || wordBefore && word)) {
                write(' ');
            }
            lineCame = false;
            blankCame = false;
            wordBefore = word;
        }

        private void writeNumber(int number) {
            separate(true);
            for (int scale = 1000; scale > 0; scale /= 10) {
                if (number >= scale || scale == 1) {
                    write((char) ('0' + number / scale % 10));
                }
            }
        }

        /** Writes a sign, or the letters of a keyword or a name. */
        private void writeCode(int code) {
            separate(code > 0);
            if (code < 0) {
                write((char) -code);
            }
            int rest = Math.max(code, 0);
            for (int n = 0; n < NAME_LETTERS && rest != 0; n++) {
                write((char) ('a' - 1 + (rest & 31)));
                rest >>>= 5;
            }
        }

        private void write(char c) {
            if (!text.append(c)) {
                tooLong = true;
                stopped = true;
            }
        }
    }
}
