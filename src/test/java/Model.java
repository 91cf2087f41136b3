import java.util.ArrayDeque;
import java.util.ArrayList;
import java.util.Deque;
import java.util.HashMap;
import java.util.HashSet;
import java.util.List;
import java.util.Map;
import java.util.Set;
import java.util.TreeMap;
import java.util.TreeSet;

/**
 * The document once more, as plainly as the Java library allows: a place is the list of the numbers
 * on its way, and everything is looked up anew at each call. It shares no thought of how the state
 * is held with CloneOutline, so that a slip in one of them shows.
 */
final class Model {
    private static final int UNKNOWN = -2;
    private static final int BAD_VALUE = -3;
    private static final int FULL = -4;
    private static final int NOT_POSSIBLE = -5;
    private static final int NONE = -6;

    private static final class World {
        int made = 0;
        final Map<Integer, String> texts = new HashMap<>();
        final Map<Integer, Set<Integer>> marks = new HashMap<>();
        final Map<Integer, List<Integer>> children = new TreeMap<>();
        final Set<List<Integer>> folded = new HashSet<>();

        World() {
            children.put(0, new ArrayList<>());
        }

        World copy() {
            World copy = new World();
            copy.made = made;
            copy.texts.putAll(texts);
            marks.forEach((node, set) -> copy.marks.put(node, new TreeSet<>(set)));
            children.forEach((node, list) -> copy.children.put(node, new ArrayList<>(list)));
            copy.folded.addAll(folded);
            return copy;
        }

        int make(String text) {
            made++;
            texts.put(made, text);
            marks.put(made, new TreeSet<>());
            children.put(made, new ArrayList<>());
            return made;
        }

        List<List<Integer>> places() {
            List<List<Integer>> places = new ArrayList<>();
            walk(0, List.of(), places);
            return places;
        }

        private void walk(int node, List<Integer> way, List<List<Integer>> places) {
            for (int child : children.get(node)) {
                List<Integer> longer = new ArrayList<>(way);
                longer.add(child);
                places.add(longer);
                walk(child, longer, places);
            }
        }

        List<List<Integer>> rows() {
            List<List<Integer>> rows = new ArrayList<>();
            for (List<Integer> place : places()) {
                boolean seen = true;
                for (int i = 1; i < place.size(); i++) {
                    seen &= !folded.contains(place.subList(0, i));
                }
                if (seen) {
                    rows.add(place);
                }
            }
            return rows;
        }

        Set<Integer> within(int node) {
            Set<Integer> found = new TreeSet<>();
            for (int child : children.getOrDefault(node, List.of())) {
                found.add(child);
                found.addAll(within(child));
            }
            return found;
        }

        /** Forgets nodes that cannot be reached and folds of places that are gone; answers how many nodes. */
        int tidy() {
            Set<Integer> reached = within(0);
            int before = texts.size();
            texts.keySet().retainAll(reached);
            marks.keySet().retainAll(reached);
            reached.add(0);
            children.keySet().retainAll(reached);
            folded.retainAll(new HashSet<>(places()));
            return before - texts.size();
        }

        int placesOf(int node) {
            int found = 0;
            for (List<Integer> place : places()) {
                found += last(place) == node ? 1 : 0;
            }
            return found;
        }
    }

    private World world = new World();
    private World snapshot = null;
    private final Deque<World> history = new ArrayDeque<>();
    private String text = "";

    private static int last(List<Integer> place) {
        return place.isEmpty() ? 0 : place.get(place.size() - 1);
    }

    private static List<Integer> up(List<Integer> place) {
        return place.subList(0, place.size() - 1);
    }

    private List<Integer> place(int row, boolean rootToo) {
        List<List<Integer>> rows = world.rows();
        if (rootToo && row == -1) {
            return List.of();
        }
        return row < 0 || row >= rows.size() ? null : rows.get(row);
    }

    private void become(World next) {
        history.addLast(world);
        if (history.size() > 5) {
            history.removeFirst();
        }
        world = next;
    }

    private boolean textFits() {
        return !text.isEmpty() && text.length() <= 8;
    }

    private int bits(int node) {
        int bits = 0;
        for (int mark : world.marks.get(node)) {
            bits += 1 << mark;
        }
        return bits;
    }

    int add(int row) {
        List<Integer> place = place(row, true);
        if (place == null) {
            return UNKNOWN;
        }
        if (!textFits()) {
            return BAD_VALUE;
        }
        if (world.made == 40) {
            return FULL;
        }
        World next = world.copy();
        int made = next.make(text);
        next.children.get(last(place)).add(made);
        if (next.places().size() > 120) {
            return FULL;
        }
        become(next);
        return made;
    }

    int cloneTo(int row, int to) {
        return attach(row, to, false);
    }

    int move(int row, int to) {
        return attach(row, to, true);
    }

    private int attach(int row, int to, boolean takeAway) {
        List<Integer> place = place(row, false);
        List<Integer> target = place(to, true);
        if (place == null || target == null) {
            return UNKNOWN;
        }
        int child = last(place);
        int parent = last(target);
        if (child == parent || world.within(child).contains(parent) || world.children.get(parent).contains(child)) {
            return NOT_POSSIBLE;
        }
        World next = world.copy();
        if (takeAway) {
            next.children.get(last(up(place))).remove(Integer.valueOf(child));
            next.folded.retainAll(new HashSet<>(next.places()));
        }
        next.children.get(parent).add(child);
        if (next.places().size() > 120) {
            return FULL;
        }
        next.tidy();
        become(next);
        return world.placesOf(child);
    }

    int cut(int row) {
        List<Integer> place = place(row, false);
        if (place == null) {
            return UNKNOWN;
        }
        World next = world.copy();
        next.children.get(last(up(place))).remove(Integer.valueOf(last(place)));
        int vanished = next.tidy();
        become(next);
        return vanished;
    }

    int shift(int row, int by) {
        List<Integer> place = place(row, false);
        if (place == null) {
            return UNKNOWN;
        }
        if (by == 0 || by > 39 || by < -39) {
            return BAD_VALUE;
        }
        List<Integer> siblings = world.children.get(last(up(place)));
        int position = siblings.indexOf(last(place)) + by;
        if (position < 0 || position >= siblings.size()) {
            return NOT_POSSIBLE;
        }
        World next = world.copy();
        List<Integer> shifted = next.children.get(last(up(place)));
        shifted.remove(Integer.valueOf(last(place)));
        shifted.add(position, last(place));
        become(next);
        return position;
    }

    int edit(int row) {
        List<Integer> place = place(row, false);
        if (place == null) {
            return UNKNOWN;
        }
        if (!textFits()) {
            return BAD_VALUE;
        }
        if (world.texts.get(last(place)).equals(text)) {
            return NONE;
        }
        World next = world.copy();
        next.texts.put(last(place), text);
        become(next);
        return world.placesOf(last(place));
    }

    int mark(int row, int mark) {
        List<Integer> place = place(row, false);
        if (place == null) {
            return UNKNOWN;
        }
        if (mark < 0 || mark > 4) {
            return BAD_VALUE;
        }
        World next = world.copy();
        Set<Integer> marks = next.marks.get(last(place));
        if (!marks.remove(mark)) {
            marks.add(mark);
        }
        become(next);
        return bits(last(place));
    }

    int fold(int row, boolean folded) {
        List<Integer> place = place(row, false);
        if (place == null) {
            return UNKNOWN;
        }
        if (world.children.get(last(place)).isEmpty()) {
            return NOT_POSSIBLE;
        }
        World next = world.copy();
        boolean changed = folded ? next.folded.add(place) : next.folded.remove(place);
        if (!changed) {
            return NONE;
        }
        become(next);
        return world.rows().size();
    }

    int foldLevel(int level) {
        if (level < 1 || level > 40) {
            return BAD_VALUE;
        }
        World next = world.copy();
        boolean changed = false;
        for (List<Integer> place : next.places()) {
            if (place.size() < level) {
                changed |= next.folded.remove(place);
            } else if (place.size() == level && !next.children.get(last(place)).isEmpty()) {
                changed |= next.folded.add(place);
            }
        }
        if (!changed) {
            return NONE;
        }
        become(next);
        return world.rows().size();
    }

    int show(int node) {
        List<Integer> first = null;
        for (List<Integer> place : world.places()) {
            if (first == null && last(place) == node) {
                first = place;
            }
        }
        if (first == null) {
            return UNKNOWN;
        }
        World next = world.copy();
        boolean changed = false;
        for (int length = 1; length < first.size(); length++) {
            changed |= next.folded.remove(first.subList(0, length));
        }
        if (!changed) {
            return NONE;
        }
        become(next);
        return world.rows().indexOf(first);
    }

    int type(char character) {
        if (text.length() == 60) {
            return FULL;
        }
        text += character;
        return text.length();
    }

    int clearText() {
        int had = text.length();
        text = "";
        return had;
    }

    /** A fault, told by its index, on the way through the grammar. */
    private static final class Fault extends RuntimeException {
        private static final long serialVersionUID = 1L;
        final int index;

        Fault(int index) {
            this.index = index;
        }
    }

    private int at;

    int readOutline() {
        World next = new World();
        at = 0;
        try {
            readList(next, 0, new HashMap<>(), new HashSet<>());
            if (at < text.length()) {
                throw new Fault(at);
            }
        } catch (Fault fault) {
            return -100 - fault.index;
        }
        if (next.places().size() > 120) {
            return FULL;
        }
        become(next);
        return next.places().size();
    }

    private boolean stands(char sign) {
        return at < text.length() && text.charAt(at) == sign;
    }

    private void readList(World next, int parent, Map<Character, Integer> known, Set<Integer> open) {
        readItem(next, parent, known, open);
        while (stands(',')) {
            at++;
            readItem(next, parent, known, open);
        }
    }

    private void readItem(World next, int parent, Map<Character, Integer> known, Set<Integer> open) {
        if (at >= text.length() || text.charAt(at) < 'a' || text.charAt(at) > 'z') {
            throw new Fault(at);
        }
        char letter = text.charAt(at);
        Integer node = known.get(letter);
        if (node != null) {
            if (open.contains(node) || next.children.get(parent).contains(node)) {
                throw new Fault(at);
            }
            next.children.get(parent).add(node);
            at++;
            return;
        }
        node = next.make(String.valueOf(letter));
        known.put(letter, node);
        next.children.get(parent).add(node);
        at++;
        if (stands('(')) {
            at++;
            open.add(node);
            readList(next, node, known, open);
            open.remove(node);
            if (!stands(')')) {
                throw new Fault(at);
            }
            at++;
        }
    }

    int undo() {
        if (history.isEmpty()) {
            return NONE;
        }
        world = history.removeLast();
        return history.size();
    }

    int keep() {
        snapshot = world.copy();
        return world.rows().size();
    }

    int restore() {
        if (snapshot == null) {
            return NONE;
        }
        become(snapshot.copy());
        return world.rows().size();
    }

    int row(int row, int what) {
        List<Integer> place = place(row, false);
        if (place == null) {
            return UNKNOWN;
        }
        List<List<Integer>> rows = world.rows();
        int node = last(place);
        int within = 0;
        for (List<Integer> other : rows) {
            within += other.size() > place.size() && other.subList(0, place.size()).equals(place) ? 1 : 0;
        }
        return switch (what) {
            case 0 -> node;
            case 1 -> place.size();
            case 2 -> world.children.get(last(up(place))).indexOf(node);
            case 3 -> world.children.get(node).size();
            case 4 -> world.folded.contains(place) ? 1 : 0;
            case 5 -> bits(node);
            case 6 -> world.placesOf(node);
            case 7 -> rows.indexOf(up(place));
            case 8 -> within;
            default -> BAD_VALUE;
        };
    }

    int number(int row, int level) {
        List<Integer> place = place(row, false);
        if (place == null) {
            return UNKNOWN;
        }
        if (level < 1) {
            return BAD_VALUE;
        }
        if (level > place.size()) {
            return NONE;
        }
        int parent = level == 1 ? 0 : place.get(level - 2);
        return world.children.get(parent).indexOf(place.get(level - 1)) + 1;
    }

    int charAt(int row, int index) {
        List<Integer> place = place(row, false);
        if (place == null) {
            return UNKNOWN;
        }
        if (index < 0) {
            return BAD_VALUE;
        }
        String told = world.texts.get(last(place));
        return index < told.length() ? told.charAt(index) : NONE;
    }

    int node(int node, int what) {
        if (!world.texts.containsKey(node)) {
            return UNKNOWN;
        }
        int parents = 0;
        for (List<Integer> children : world.children.values()) {
            parents += children.contains(node) ? 1 : 0;
        }
        int seen = 0;
        int first = NONE;
        List<List<Integer>> rows = world.rows();
        for (int row = rows.size() - 1; row >= 0; row--) {
            if (last(rows.get(row)) == node) {
                seen++;
                first = row;
            }
        }
        return switch (what) {
            case 0 -> parents;
            case 1 -> world.placesOf(node);
            case 2 -> seen;
            case 3 -> world.children.get(node).size();
            case 4 -> bits(node);
            case 5 -> first;
            case 6 -> world.texts.get(node).length();
            case 7 -> world.within(node).size();
            default -> BAD_VALUE;
        };
    }

    int nextMarked(int row, int mark) {
        if (place(row, true) == null) {
            return UNKNOWN;
        }
        if (mark < 0 || mark > 4) {
            return BAD_VALUE;
        }
        List<List<Integer>> rows = world.rows();
        for (int next = row + 1; next < rows.size(); next++) {
            if (world.marks.get(last(rows.get(next))).contains(mark)) {
                return next;
            }
        }
        return NONE;
    }

    int find(int row) {
        if (place(row, true) == null) {
            return UNKNOWN;
        }
        List<List<Integer>> rows = world.rows();
        for (int next = row + 1; next < rows.size(); next++) {
            if (world.texts.get(last(rows.get(next))).equals(text)) {
                return next;
            }
        }
        return NONE;
    }

    int count(int what) {
        int shared = 0;
        for (int node : world.texts.keySet()) {
            shared += node(node, 0) > 1 ? 1 : 0;
        }
        int deepest = 0;
        for (List<Integer> place : world.places()) {
            deepest = Math.max(deepest, place.size());
        }
        return switch (what) {
            case 0 -> world.texts.size();
            case 1 -> world.made;
            case 2 -> world.places().size();
            case 3 -> world.rows().size();
            case 4 -> world.folded.size();
            case 5 -> shared;
            case 6 -> deepest;
            case 7 -> history.size();
            case 8 -> text.length();
            default -> BAD_VALUE;
        };
    }
}
