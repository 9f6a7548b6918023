import java.util.ArrayList;
import java.util.List;
import java.util.Map;
import java.util.Set;
import java.util.TreeMap;
import java.util.TreeSet;
import java.util.regex.Matcher;
import java.util.regex.Pattern;

/** A description as the twin reads and checks it: by objects, library sets, and the document's words one by one. */
final class TwinLanguage {
    static final int INFINITE = 99;
    private static final String WORDS = "number name empty blank line deeper back";
    private static final Pattern TOKEN =
        Pattern.compile("[a-z]+|[A-Z]|\"[a-z]{1,5}\"|'[!-~&&[^A-Za-z0-9]]|[0-9]|[=;|*?()~+]");

    record Token(String text, int place) {
        boolean isLiteral() {
            return text.startsWith("\"") || text.startsWith("'");
        }

        boolean isLetter() {
            return text.matches("[A-Z]");
        }

        boolean beginsPart() {
            return isLiteral() || isLetter() || text.equals("(") || List.of(WORDS.split(" ")).contains(text);
        }
    }

    /** A part, perhaps with * or ? behind it. */
    static final class Unit {
        final Token token;
        int digit;
        Form group;
        String repeat = "";
        int mark;

        Unit(Token token) {
            this.token = token;
        }
    }

    static final class Alternative {
        final int bar;
        /** Each item is one unit, or a swapped pair of them. */
        final List<List<Unit>> items = new ArrayList<>();
        Set<Integer> directors;

        Alternative(int bar) {
            this.bar = bar;
        }

        List<Unit> units() {
            List<Unit> all = new ArrayList<>();
            items.forEach(all::addAll);
            return all;
        }
    }

    static final class Form {
        final List<Alternative> alternatives = new ArrayList<>();
    }

    record Rule(String name, int place, Form form) {
    }

    final List<Rule> rules = new ArrayList<>();
    final List<String> literals = new ArrayList<>();
    final Map<String, Set<Integer>> starts = new TreeMap<>();
    final Map<String, Set<Integer>> follows = new TreeMap<>();
    final Map<String, Integer> heights = new TreeMap<>();
    final Set<String> voids = new TreeSet<>();
    private final List<Token> uses = new ArrayList<>();
    private final List<Token> tokens = new ArrayList<>();
    private final Set<Integer> found = new TreeSet<>();
    private int next;
    private int parts;
    /** A fault of 1 to 4 with its place, as compile() answers it; 0 if there is none. */
    final int fault;

    TwinLanguage(String text) {
        Matcher matcher = TOKEN.matcher(text);
        int place = 0;
        while (place < text.length()) {
            boolean isBlank = " \n".indexOf(text.charAt(place)) >= 0;
            boolean isToken = !isBlank && matcher.region(place, text.length()).lookingAt();
            if (!isBlank) {
                tokens.add(new Token(isToken ? matcher.group() : "none of these", place));
            }
            place = isToken ? matcher.end() : place + 1;
        }
        tokens.add(new Token("", text.length()));
        fault = firstOfText();
    }

    private static final class Fault extends RuntimeException {
        private static final long serialVersionUID = 1;
        final int answer;

        Fault(int number, Token token) {
            answer = number + 16 * token.place();
        }
    }

    private int firstOfText() {
        try {
            do {
                readRule();
            } while (!peek().text().isEmpty());
            for (Token use : uses) {
                if (rules.stream().noneMatch(rule -> rule.name().equals(use.text()))) {
                    throw new Fault(4, use);
                }
            }
            return 0;
        } catch (Fault thrown) {
            return thrown.answer;
        }
    }

    private Token peek() {
        return tokens.get(next);
    }

    private Token take(boolean can) {
        if (!can) {
            throw new Fault(1, peek());
        }
        next++;
        return tokens.get(next - 1);
    }

    private boolean sees(String text) {
        return peek().text().equals(text);
    }

    private void readRule() {
        Token name = take(peek().isLetter());
        if (rules.stream().anyMatch(rule -> rule.name().equals(name.text()))) {
            throw new Fault(2, name);
        }
        if (rules.size() == 10) {
            throw new Fault(3, name);
        }
        take(sees("="));
        rules.add(new Rule(name.text(), name.place(), readForm(0)));
        take(sees(";"));
    }

    private Form readForm(int open) {
        Form form = new Form();
        form.alternatives.add(readAlternative(-1, open));
        while (sees("|")) {
            if (form.alternatives.size() == 6) {
                throw new Fault(3, peek());
            }
            form.alternatives.add(readAlternative(take(true).place(), open));
        }
        return form;
    }

    private Alternative readAlternative(int bar, int open) {
        Alternative alternative = new Alternative(bar);
        do {
            List<Unit> item = new ArrayList<>();
            item.add(readUnit(open));
            if (sees("~")) {
                take(true);
                item.add(readUnit(open));
            }
            alternative.items.add(item);
        } while (peek().beginsPart());
        return alternative;
    }

    private Unit readUnit(int open) {
        Unit unit = new Unit(take(peek().beginsPart()));
        String text = unit.token.text();
        boolean isNew = unit.token.isLiteral() && !literals.contains(text);
        if (parts == 60 || text.equals("(") && open == 4 || isNew && literals.size() == 20) {
            throw new Fault(3, unit.token);
        }
        parts++;
        if (isNew) {
            literals.add(text);
        } else if (unit.token.isLetter()) {
            uses.add(unit.token);
        } else if (text.equals("number") && sees("+")) {
            take(true);
            unit.digit = Integer.parseInt(take(peek().text().matches("[0-9]")).text());
        } else if (text.equals("(")) {
            unit.group = readForm(open + 1);
            take(sees(")"));
        }
        if (sees("*") || sees("?")) {
            unit.repeat = peek().text();
            unit.mark = take(true).place();
        }
        return unit;
    }

    /** What compile() answers. */
    int check() {
        if (fault != 0) {
            return fault;
        }
        for (Rule rule : rules) {
            starts.put(rule.name(), new TreeSet<>());
            follows.put(rule.name(), new TreeSet<>());
            heights.put(rule.name(), INFINITE);
        }
        follows.get(rules.get(0).name()).add(0);
        String before;
        do {
            before = voids + " " + starts + " " + follows + " " + heights;
            for (Rule rule : rules) {
                improve(rule);
            }
        } while (!before.equals(voids + " " + starts + " " + follows + " " + heights));
        found.clear();
        for (Rule rule : rules) {
            checkRule(rule);
            spread(rule.form(), follows.get(rule.name()));
        }
        return found.isEmpty() ? 0 : found.iterator().next();
    }

    private void improve(Rule rule) {
        if (isVoid(rule.form())) {
            voids.add(rule.name());
        }
        starts.get(rule.name()).addAll(starts(rule.form()));
        heights.put(rule.name(), Math.min(INFINITE, 1 + height(rule.form())));
        spread(rule.form(), follows.get(rule.name()));
    }

    int kindOf(String literal) {
        return 3 + literals.indexOf(literal);
    }

    private boolean isVoid(Form form) {
        return form.alternatives.stream().anyMatch(alternative -> areVoid(alternative.units()));
    }

    private boolean areVoid(List<Unit> some) {
        return some.stream().allMatch(unit -> !unit.repeat.isEmpty() || isVoidOnce(unit));
    }

    private boolean isVoidOnce(Unit unit) {
        if (unit.group != null) {
            return isVoid(unit.group);
        }
        String text = unit.token.text();
        return voids.contains(text) || List.of("empty", "blank", "line", "deeper", "back").contains(text);
    }

    private Set<Integer> starts(Form form) {
        Set<Integer> all = new TreeSet<>();
        form.alternatives.forEach(alternative -> all.addAll(starts(alternative.units())));
        return all;
    }

    private Set<Integer> starts(List<Unit> some) {
        Set<Integer> all = new TreeSet<>();
        for (int k = 0; k < some.size() && areVoid(some.subList(0, k)); k++) {
            all.addAll(starts(some.get(k)));
        }
        return all;
    }

    Set<Integer> starts(Unit unit) {
        String text = unit.token.text();
        if (unit.group != null) {
            return starts(unit.group);
        } else if (unit.token.isLetter()) {
            return starts.get(text);
        } else if (unit.token.isLiteral()) {
            return Set.of(kindOf(text));
        }
        return text.equals("number") ? Set.of(1) : text.equals("name") ? Set.of(2) : Set.of();
    }

    private int height(Form form) {
        return form.alternatives.stream().mapToInt(this::height).min().orElse(INFINITE);
    }

    int height(Alternative alternative) {
        return alternative.units().stream().mapToInt(this::height).max().orElse(0);
    }

    private int height(Unit unit) {
        if (!unit.repeat.isEmpty()) {
            return 0;
        }
        return unit.group != null ? height(unit.group) : unit.token.isLetter() ? heights.get(unit.token.text()) : 0;
    }

    /** Tells a form what follows it; on the way the faults 7 to 9 are found, as far as the sets are known. */
    private void spread(Form form, Set<Integer> behind) {
        Set<Integer> before = new TreeSet<>();
        for (Alternative alternative : form.alternatives) {
            List<Unit> all = alternative.units();
            alternative.directors = starts(all);
            if (areVoid(all)) {
                alternative.directors.addAll(behind);
            }
            blame(alternative.directors.stream().anyMatch(before::contains), 8, alternative.bar);
            before.addAll(alternative.directors);
            for (int k = 0; k < all.size(); k++) {
                List<Unit> rest = all.subList(k + 1, all.size());
                Set<Integer> following = starts(rest);
                if (areVoid(rest)) {
                    following.addAll(behind);
                }
                spread(all.get(k), following);
            }
        }
    }

    private void spread(Unit unit, Set<Integer> behind) {
        if (!unit.repeat.isEmpty()) {
            blame(isVoidOnce(unit), 7, unit.mark);
            blame(starts(unit).stream().anyMatch(behind::contains), 9, unit.mark);
        }
        Set<Integer> within = new TreeSet<>(behind);
        if (unit.repeat.equals("*")) {
            within.addAll(starts(unit));
        }
        if (unit.group != null) {
            spread(unit.group, within);
        } else if (unit.token.isLetter()) {
            follows.get(unit.token.text()).addAll(within);
        }
    }

    private void blame(boolean wrong, int number, int place) {
        if (wrong) {
            found.add(number + 16 * place);
        }
    }

    private void checkRule(Rule rule) {
        Set<String> begun = new TreeSet<>(begins(rule.form()));
        for (int n = 0; n < rules.size(); n++) {
            for (Rule other : rules) {
                if (begun.contains(other.name())) {
                    begun.addAll(begins(other.form()));
                }
            }
        }
        blame(begun.contains(rule.name()), 5, rule.place());
        blame(heights.get(rule.name()) == INFINITE, 6, rule.place());
    }

    private Set<String> begins(Form form) {
        Set<String> all = new TreeSet<>();
        for (Alternative alternative : form.alternatives) {
            List<Unit> units = alternative.units();
            for (int k = 0; k < units.size() && areVoid(units.subList(0, k)); k++) {
                Unit unit = units.get(k);
                all.addAll(unit.group != null ? begins(unit.group)
                    : unit.token.isLetter() ? Set.of(unit.token.text()) : Set.of());
            }
        }
        return all;
    }
}
