import java.util.Set;
import java.util.regex.Matcher;
import java.util.regex.Pattern;

/** Makes a tree of an input. */
final class TwinReading extends TwinMaker {
    private static final Pattern TOKEN = Pattern.compile("[ \n]*([0-9]+|[a-z]+|[^ \n]|\\z)");

    /** A token can't be there. */
    static final class Fault extends RuntimeException {
        private static final long serialVersionUID = 1;
        final int place;

        Fault(int place) {
            this.place = place;
        }
    }

    private final Matcher matcher;

    TwinReading(TwinLanguage language, String input) {
        super(language);
        matcher = TOKEN.matcher(input);
    }

    TwinTree read() {
        passes();
        TwinTree tree = use(language.rules.get(0).name());
        must(Set.of(0));
        return tree;
    }

    private int kind() {
        String token = matcher.group(1);
        int literal = Math.max(language.literals.indexOf("\"" + token + "\""), language.literals.indexOf("'" + token));
        if (token.isEmpty()) {
            return 0;
        } else if (literal >= 0) {
            return 3 + literal;
        }
        return token.matches("[0-9]{1,4}") ? 1 : token.matches("[a-z]{1,6}") ? 2 : -1;
    }

    private void must(Set<Integer> kinds) {
        if (!kinds.contains(kind())) {
            throw new Fault(matcher.start(1));
        }
    }

    @Override
    void passes() {
        matcher.find();
        if (kind() < 0) {
            throw new Fault(matcher.start(1));
        }
    }

    @Override
    int which(TwinLanguage.Form form) {
        for (TwinLanguage.Alternative alternative : form.alternatives) {
            if (alternative.directors.contains(kind())) {
                return form.alternatives.indexOf(alternative);
            }
        }
        throw new Fault(matcher.start(1));
    }

    @Override
    int ahead(TwinLanguage.Unit unit) {
        return 0;
    }

    @Override
    boolean goesOn(TwinLanguage.Unit unit, TwinTree node, int times) {
        return (times == 0 || unit.repeat.equals("*")) && language.starts(unit).contains(kind());
    }

    @Override
    int value(TwinLanguage.Unit unit) {
        must(language.starts(unit));
        String token = matcher.group(1);
        return kind() == 1 ? (Integer.parseInt(token) + unit.digit) % 10000 : (int) Desk.letters(token);
    }

    @Override
    void literal(TwinLanguage.Unit unit) {
        must(language.starts(unit));
        passes();
    }

    @Override
    void uses() {
    }
}
