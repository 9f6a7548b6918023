import java.util.ArrayList;
import java.util.Iterator;
import java.util.List;

/** A tree of the twin: a node with those that stand in it. */
final class TwinTree {
    final int kind;
    int value;
    final List<TwinTree> parts = new ArrayList<>();

    TwinTree(int kind, int value) {
        this.kind = kind;
        this.value = value;
    }

    TwinTree copy() {
        TwinTree copy = new TwinTree(kind, value);
        parts.forEach(part -> copy.parts.add(part.copy()));
        return copy;
    }

    /** A whole before its parts, these in their order. */
    List<TwinTree> nodes() {
        List<TwinTree> all = new ArrayList<>();
        all.add(this);
        parts.forEach(part -> all.addAll(part.nodes()));
        return all;
    }

    int against(TwinTree other) {
        Iterator<TwinTree> mine = nodes().iterator();
        Iterator<TwinTree> theirs = other.nodes().iterator();
        while (mine.hasNext() && theirs.hasNext()) {
            TwinTree left = mine.next();
            TwinTree right = theirs.next();
            if (left.kind != right.kind) {
                return left.kind < right.kind ? -1 : 1;
            }
            if (left.value != right.value) {
                return left.value < right.value ? -1 : 1;
            }
        }
        return theirs.hasNext() ? -1 : mine.hasNext() ? 1 : 0;
    }

    static String letters(long value) {
        StringBuilder all = new StringBuilder();
        for (long rest = value; rest != 0; rest /= 32) {
            all.append((char) ('a' - 1 + rest % 32));
        }
        return all.toString();
    }
}
