import java.util.ArrayList;
import java.util.Iterator;
import java.util.List;

/** Writes a tree: first its tokens and layout in a row, taken in the order of the nodes, then the text. */
final class TwinPrinting {
    private final TwinLanguage language;

    TwinPrinting(TwinLanguage language) {
        this.language = language;
    }

    String print(TwinTree tree) {
        StringBuilder text = new StringBuilder();
        int level = 0;
        String between = "";
        for (String word : use(tree)) {
            switch (word) {
                case "deeper" -> level++;
                case "back" -> level = Math.max(0, level - 1);
                case "line", "blank" -> between += word;
                case "empty" -> { }
                default -> {
                    String token = word.substring(1);
                    text.append(text.isEmpty() ? "" : space(between, level, text.charAt(text.length() - 1), token.charAt(0)));
                    text.append(token);
                    between = "";
                }
            }
        }
        return text.toString();
    }

    private static String space(String between, int level, char before, char behind) {
        if (between.contains("line")) {
            return "\n" + "  ".repeat(level);
        }
        boolean apart = Character.isLetterOrDigit(before) && Character.isLetterOrDigit(behind);
        return between.contains("blank") || apart ? " " : "";
    }

    private List<String> use(TwinTree node) {
        return form(language.rules.get(node.value).form(), node.parts.iterator());
    }

    private List<String> form(TwinLanguage.Form form, Iterator<TwinTree> nodes) {
        if (form.alternatives.size() == 1) {
            return alternative(form.alternatives.get(0), nodes);
        }
        TwinTree node = nodes.next();
        return alternative(form.alternatives.get(node.value), node.parts.iterator());
    }

    /** The nodes of the second one of a pair come first, its words last. */
    private List<String> alternative(TwinLanguage.Alternative alternative, Iterator<TwinTree> nodes) {
        List<String> all = new ArrayList<>();
        for (List<TwinLanguage.Unit> item : alternative.items) {
            int place = all.size();
            for (int k = item.size() - 1; k >= 0; k--) {
                all.addAll(place, unit(item.get(k), nodes));
            }
        }
        return all;
    }

    private List<String> unit(TwinLanguage.Unit unit, Iterator<TwinTree> nodes) {
        if (unit.repeat.isEmpty()) {
            return part(unit, nodes);
        }
        TwinTree node = nodes.next();
        Iterator<TwinTree> within = node.parts.iterator();
        List<String> all = new ArrayList<>();
        for (int times = 0; times < node.value; times++) {
            all.addAll(part(unit, within));
        }
        return all;
    }

    /** Tokens are told with a mark in front, so that a name is no layout. */
    private List<String> part(TwinLanguage.Unit unit, Iterator<TwinTree> nodes) {
        String text = unit.token.text();
        if (unit.group != null) {
            return form(unit.group, nodes);
        } else if (unit.token.isLetter()) {
            return use(nodes.next());
        } else if (unit.token.isLiteral()) {
            return List.of(text.startsWith("'") ? text : text.substring(0, text.length() - 1));
        } else if (text.equals("number")) {
            return List.of("." + Math.floorMod(nodes.next().value - unit.digit, 10000));
        } else if (text.equals("name")) {
            return List.of("." + TwinTree.letters(nodes.next().value));
        }
        return List.of(text);
    }
}
