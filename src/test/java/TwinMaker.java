import java.util.ArrayList;
import java.util.List;

/** Makes a tree in the order of the text; whence it knows the way, is told by those that extend it. */
abstract class TwinMaker {
    final TwinLanguage language;
    private int nodes;
    private int open;

    TwinMaker(TwinLanguage language) {
        this.language = language;
    }

    abstract int which(TwinLanguage.Form form);

    abstract boolean goesOn(TwinLanguage.Unit unit, TwinTree node, int times);

    /** How often what is repeated will be, as far as this is known ahead. */
    abstract int ahead(TwinLanguage.Unit unit);

    /** The value of a number's or name's node. */
    abstract int value(TwinLanguage.Unit unit);

    abstract void literal(TwinLanguage.Unit unit);

    /** A use has begun. */
    abstract void uses();

    /** A number or name has its node. */
    abstract void passes();

    private TwinTree node(int kind, int value) {
        if (nodes == 100) {
            throw new UnsupportedOperationException();
        }
        nodes++;
        return new TwinTree(kind, value);
    }

    TwinTree use(String name) {
        if (open == 12) {
            throw new UnsupportedOperationException();
        }
        int number = 0;
        while (!language.rules.get(number).name().equals(name)) {
            number++;
        }
        TwinTree node = node(1, number);
        open++;
        uses();
        node.parts.addAll(form(language.rules.get(number).form()));
        open--;
        return node;
    }

    private List<TwinTree> form(TwinLanguage.Form form) {
        if (form.alternatives.size() == 1) {
            return alternative(form.alternatives.get(0));
        }
        int which = which(form);
        TwinTree node = node(4, which);
        node.parts.addAll(alternative(form.alternatives.get(which)));
        return List.of(node);
    }

    private List<TwinTree> alternative(TwinLanguage.Alternative alternative) {
        List<TwinTree> all = new ArrayList<>();
        for (List<TwinLanguage.Unit> item : alternative.items) {
            int place = all.size();
            for (TwinLanguage.Unit unit : item) {
                all.addAll(place, unit(unit));
            }
        }
        return all;
    }

    private List<TwinTree> unit(TwinLanguage.Unit unit) {
        if (unit.repeat.isEmpty()) {
            return part(unit);
        }
        TwinTree node = node(unit.repeat.equals("*") ? 5 : 6, ahead(unit));
        for (int times = 0; goesOn(unit, node, times); times++) {
            node.value = Math.max(node.value, times + 1);
            node.parts.addAll(part(unit));
        }
        return List.of(node);
    }

    private List<TwinTree> part(TwinLanguage.Unit unit) {
        if (unit.group != null) {
            return form(unit.group);
        } else if (unit.token.isLetter()) {
            return List.of(use(unit.token.text()));
        } else if (unit.token.isLiteral()) {
            literal(unit);
            return List.of();
        } else if (language.starts(unit).isEmpty()) {
            return List.of();
        }
        int value = value(unit);
        TwinTree node = node(unit.token.text().equals("number") ? 2 : 3, value);
        passes();
        return List.of(node);
    }
}
