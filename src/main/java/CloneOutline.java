/** An outline in which a node can stand under many parents. README.md tells how it is used. */
public final class CloneOutline {
    public static final int UNKNOWN = -2;
    public static final int BAD_VALUE = -3;
    public static final int FULL = -4;
    public static final int NOT_POSSIBLE = -5;
    public static final int NONE = -6;

    private static final int MOST_NODES = 40;
    private static final int MOST_PLACES = 120;
    private static final int MOST_TYPED = 60;
    private static final int MOST_LETTERS = 8;
    private static final int MOST_STATES = 5;
    private static final int MOST_SHIFT = 39;
    private static final int MARKS = 5;
    private static final int ALPHABET = 26;

    private static final int ROOT = 0;
    private static final int ROOT_ROW = -1;
    private static final int ROOT_PLACE = -1;
    private static final int NO_PLACE = -2;
    private static final int NO_LINK = -1;
    private static final int NO_FAULT = -1;
    private static final int ALLOWED = 0;
    private static final int FAULT_BASE = -100;

    private final Typed typed;
    private final Reader reader;
    private final Rows rows;
    private final History history;
    private final State snapshot;
    private boolean hasSnapshot;
    private State current;
    // Acts are tried out here, so that a refused one leaves the current state as it was.
    private State draft;

    public CloneOutline() {
        typed = new Typed();
        reader = new Reader();
        rows = new Rows();
        history = new History();
        snapshot = new State();
        hasSnapshot = false;
        current = new State();
        draft = new State();
    }

    public int add(int row) {
        int place = placeOrRoot(row);
        if (place == NO_PLACE) {
            return UNKNOWN;
        }
        if (!typed.fitsNode()) {
            return BAD_VALUE;
        }
        if (current.nodes.made >= MOST_NODES) {
            return FULL;
        }
        draft.copyFrom(current);
        int made = draft.nodes.makeNode();
        draft.nodes.setText(made, typed);
        if (attach(made, current.places.nodeOf(place)) == FULL) {
            return FULL;
        }
        return made;
    }

    public int cloneTo(int row, int to) {
        int refusal = refusalOfParent(row, to);
        if (refusal != ALLOWED) {
            return refusal;
        }
        draft.copyFrom(current);
        return attach(nodeOfRow(row), nodeOfRow(to));
    }

    public int move(int row, int to) {
        int refusal = refusalOfParent(row, to);
        if (refusal != ALLOWED) {
            return refusal;
        }
        int moved = nodeOfRow(row);
        draft.copyFrom(current);
        draft.links.drop(parentNodeOf(rows.placeOf(row)), moved);
        return attach(moved, nodeOfRow(to));
    }

    public int cut(int row) {
        int place = rows.placeOf(row);
        if (place == NO_PLACE) {
            return UNKNOWN;
        }
        draft.copyFrom(current);
        draft.links.drop(parentNodeOf(place), current.places.nodeOf(place));
        // There is room for sure: no place is new.
        draft.placeAgain(current.places);
        int vanished = draft.dropVanished(current.places.nodeSet());
        accept();
        return vanished;
    }

    public int shift(int row, int by) {
        int place = rows.placeOf(row);
        if (place == NO_PLACE) {
            return UNKNOWN;
        }
        if (by < -MOST_SHIFT || by > MOST_SHIFT || by == 0) {
            return BAD_VALUE;
        }
        int shifted = current.places.nodeOf(place);
        int parent = parentNodeOf(place);
        int position = current.links.position(parent, shifted) + by;
        if (position < 0 || position >= current.links.childCount(parent)) {
            return NOT_POSSIBLE;
        }
        draft.copyFrom(current);
        draft.links.shiftChild(parent, shifted, by);
        // There is room for sure: no place is new.
        draft.placeAgain(current.places);
        accept();
        return position;
    }

    public int edit(int row) {
        int place = rows.placeOf(row);
        if (place == NO_PLACE) {
            return UNKNOWN;
        }
        if (!typed.fitsNode()) {
            return BAD_VALUE;
        }
        int edited = current.places.nodeOf(place);
        if (current.nodes.hasText(edited, typed)) {
            return NONE;
        }
        draft.copyFrom(current);
        draft.nodes.setText(edited, typed);
        accept();
        return current.places.countOf(edited);
    }

    public int mark(int row, int mark) {
        int place = rows.placeOf(row);
        if (place == NO_PLACE) {
            return UNKNOWN;
        }
        if (!isMark(mark)) {
            return BAD_VALUE;
        }
        int marked = current.places.nodeOf(place);
        draft.copyFrom(current);
        draft.nodes.toggleMark(marked, mark);
        accept();
        return current.nodes.marksOf(marked);
    }

    public int fold(int row, boolean folded) {
        int place = rows.placeOf(row);
        if (place == NO_PLACE) {
            return UNKNOWN;
        }
        if (!current.places.hasChildren(place)) {
            return NOT_POSSIBLE;
        }
        int wanted = folded ? 1 : 0;
        if (current.places.foldOf(place) == wanted) {
            return NONE;
        }
        draft.copyFrom(current);
        draft.places.setFold(place, wanted);
        accept();
        return rows.size;
    }

    public int foldLevel(int level) {
        if (level < 1 || level > MOST_NODES) {
            return BAD_VALUE;
        }
        draft.copyFrom(current);
        if (!draft.places.foldAtLevel(level)) {
            return NONE;
        }
        accept();
        return rows.size;
    }

    public int show(int node) {
        int place = current.places.firstOf(node);
        if (place == NO_PLACE) {
            return UNKNOWN;
        }
        draft.copyFrom(current);
        if (!draft.places.unfoldAround(place)) {
            return NONE;
        }
        accept();
        return rows.rowOf(place);
    }

    public int type(char character) {
        return typed.append(character) ? typed.length : FULL;
    }

    public int clearText() {
        int had = typed.length;
        typed.length = 0;
        return had;
    }

    public int readOutline() {
        draft.clearNodes();
        int fault = reader.read(typed, draft);
        if (fault != NO_FAULT) {
            return FAULT_BASE - fault;
        }
        if (!draft.placeAnew()) {
            return FULL;
        }
        accept();
        return current.places.size;
    }

    public int undo() {
        if (!history.popInto(current)) {
            return NONE;
        }
        rows.refresh(current.places);
        return history.size;
    }

    public int keep() {
        snapshot.copyFrom(current);
        hasSnapshot = true;
        return rows.size;
    }

    public int restore() {
        if (!hasSnapshot) {
            return NONE;
        }
        draft.copyFrom(snapshot);
        accept();
        return rows.size;
    }

    public int row(int row, int what) {
        int place = rows.placeOf(row);
        if (place == NO_PLACE) {
            return UNKNOWN;
        }
        Places places = current.places;
        int told = places.nodeOf(place);
        switch (what) {
            case 0:
                return told;
            case 1:
                return places.levelOf(place);
            case 2:
                return positionAt(place);
            case 3:
                return current.links.childCount(told);
            case 4:
                return places.foldOf(place);
            case 5:
                return current.nodes.marksOf(told);
            case 6:
                return places.countOf(told);
            case 7:
                return parentRow(place);
            case 8:
                return rows.seenBetween(place + 1, places.endOf(place));
            default:
                return BAD_VALUE;
        }
    }

    public int number(int row, int level) {
        int place = rows.placeOf(row);
        if (place == NO_PLACE) {
            return UNKNOWN;
        }
        if (level < 1) {
            return BAD_VALUE;
        }
        if (level > current.places.levelOf(place)) {
            return NONE;
        }
        return positionAt(current.places.atLevel(place, level)) + 1;
    }

    public int charAt(int row, int index) {
        int place = rows.placeOf(row);
        if (place == NO_PLACE) {
            return UNKNOWN;
        }
        if (index < 0) {
            return BAD_VALUE;
        }
        int told = current.places.nodeOf(place);
        if (index >= current.nodes.lengthOf(told)) {
            return NONE;
        }
        return current.nodes.codeAt(told, index);
    }

    public int node(int node, int what) {
        Places places = current.places;
        int first = places.firstOf(node);
        if (first == NO_PLACE) {
            return UNKNOWN;
        }
        switch (what) {
            case 0:
                return current.links.parentCount(node);
            case 1:
                return places.countOf(node);
            case 2:
                return rows.seenOf(places, node);
            case 3:
                return current.links.childCount(node);
            case 4:
                return current.nodes.marksOf(node);
            case 5:
                return rows.firstOf(places, node);
            case 6:
                return current.nodes.lengthOf(node);
            case 7:
                return Long.bitCount(places.nodesWithin(first));
            default:
                return BAD_VALUE;
        }
    }

    public int nextMarked(int row, int mark) {
        if (placeOrRoot(row) == NO_PLACE) {
            return UNKNOWN;
        }
        if (!isMark(mark)) {
            return BAD_VALUE;
        }
        for (int next = row + 1; next < rows.size; next++) {
            if (((current.nodes.marksOf(nodeOfRow(next)) >> mark) & 1) == 1) {
                return next;
            }
        }
        return NONE;
    }

    public int find(int row) {
        if (placeOrRoot(row) == NO_PLACE) {
            return UNKNOWN;
        }
        for (int next = row + 1; next < rows.size; next++) {
            if (current.nodes.hasText(nodeOfRow(next), typed)) {
                return next;
            }
        }
        return NONE;
    }

    public int count(int what) {
        switch (what) {
            case 0:
                return Long.bitCount(current.places.nodeSet());
            case 1:
                return current.nodes.made;
            case 2:
                return current.places.size;
            case 3:
                return rows.size;
            case 4:
                return current.places.foldedCount();
            case 5:
                return current.links.sharedCount();
            case 6:
                return current.places.greatestLevel();
            case 7:
                return history.size;
            case 8:
                return typed.length;
            default:
                return BAD_VALUE;
        }
    }

    private static boolean isMark(int mark) {
        return mark >= 0 && mark < MARKS;
    }

    private int placeOrRoot(int row) {
        return row == ROOT_ROW ? ROOT_PLACE : rows.placeOf(row);
    }

    private int nodeOfRow(int row) {
        return current.places.nodeOf(rows.placeOf(row));
    }

    private int parentNodeOf(int place) {
        return current.places.nodeOf(current.places.parentOf(place));
    }

    private int parentRow(int place) {
        int parent = current.places.parentOf(place);
        return parent == ROOT_PLACE ? ROOT_ROW : rows.rowOf(parent);
    }

    private int positionAt(int place) {
        return current.links.position(parentNodeOf(place), current.places.nodeOf(place));
    }

    private int refusalOfParent(int row, int to) {
        int place = rows.placeOf(row);
        int toPlace = placeOrRoot(to);
        if (place == NO_PLACE || toPlace == NO_PLACE) {
            return UNKNOWN;
        }
        int child = current.places.nodeOf(place);
        int parent = current.places.nodeOf(toPlace);
        boolean withinItself = parent == child
                || ((current.places.nodesWithin(place) >> parent) & 1L) == 1L;
        boolean childAlready = current.links.indexOf(parent, child) != NO_LINK;
        return withinItself || childAlready ? NOT_POSSIBLE : ALLOWED;
    }

    /** Ends an act that the draft has begun; answers the places of the child, or FULL. */
    private int attach(int child, int parent) {
        // Each link has a place of its own at least: no room for it means too many places.
        if (!draft.links.append(parent, child) || !draft.placeAgain(current.places)) {
            return FULL;
        }
        accept();
        return current.places.countOf(child);
    }

    private void accept() {
        history.push(current);
        State before = current;
        current = draft;
        draft = before;
        rows.refresh(current.places);
    }

    /** The text that is typed. */
    private static final class Typed {
        final int[] codes = new int[MOST_TYPED];
        int length;

        boolean append(char character) {
            if (length < 0 || length >= MOST_TYPED) {
                return false;
            }
            codes[length] = character;
            length++;
            return true;
        }

        boolean fitsNode() {
            return length >= 1 && length <= MOST_LETTERS;
        }

        int codeAt(int index) {
            return index >= 0 && index < length && index < MOST_TYPED ? codes[index] : -1;
        }
    }

    /** What the nodes are by themselves. */
    private static final class Nodes {
        final int[] marks = new int[MOST_NODES + 1];
        final int[] lengths = new int[MOST_NODES + 1];
        final int[] codes = new int[(MOST_NODES + 1) * MOST_LETTERS];
        int made;

        void copyFrom(Nodes other) {
            made = other.made;
            System.arraycopy(other.marks, 0, marks, 0, MOST_NODES + 1);
            System.arraycopy(other.lengths, 0, lengths, 0, MOST_NODES + 1);
            System.arraycopy(other.codes, 0, codes, 0, (MOST_NODES + 1) * MOST_LETTERS);
        }

        private static boolean isNumber(int node) {
            return node >= 0 && node <= MOST_NODES;
        }

        /** Answers the number of the new node, or the root if no more can be made. */
        int makeNode() {
            if (made < 0 || made >= MOST_NODES) {
                return ROOT;
            }
            made++;
            marks[made] = 0;
            lengths[made] = 0;
            return made;
        }

        void setLetter(int node, int code) {
            if (isNumber(node)) {
                codes[node * MOST_LETTERS] = code;
                lengths[node] = 1;
            }
        }

        void setText(int node, Typed text) {
            if (!isNumber(node) || !text.fitsNode()) {
                return;
            }
            for (int i = 0; i < text.length && i < MOST_LETTERS; i++) {
                codes[node * MOST_LETTERS + i] = text.codeAt(i);
            }
            lengths[node] = text.length;
        }

        boolean hasText(int node, Typed text) {
            if (lengthOf(node) != text.length) {
                return false;
            }
            for (int i = 0; i < text.length; i++) {
                if (codeAt(node, i) != text.codeAt(i)) {
                    return false;
                }
            }
            return true;
        }

        int lengthOf(int node) {
            return isNumber(node) ? lengths[node] : 0;
        }

        int codeAt(int node, int index) {
            boolean isThere = isNumber(node) && index >= 0 && index < MOST_LETTERS;
            return isThere ? codes[node * MOST_LETTERS + index] : -1;
        }

        int marksOf(int node) {
            return isNumber(node) ? marks[node] : 0;
        }

        void toggleMark(int node, int mark) {
            if (isNumber(node) && isMark(mark)) {
                marks[node] ^= 1 << mark;
            }
        }
    }

    /**
     * The pairs of a parent and its child. The children of a node stand in the order of its pairs;
     * the order of pairs of different parents means nothing.
     */
    private static final class Links {
        final int[] parents = new int[MOST_PLACES];
        final int[] children = new int[MOST_PLACES];
        int size;

        void copyFrom(Links other) {
            size = other.size;
            System.arraycopy(other.parents, 0, parents, 0, MOST_PLACES);
            System.arraycopy(other.children, 0, children, 0, MOST_PLACES);
        }

        boolean append(int parent, int child) {
            if (size < 0 || size >= MOST_PLACES) {
                return false;
            }
            parents[size] = parent;
            children[size] = child;
            size++;
            return true;
        }

        int indexOf(int parent, int child) {
            for (int i = 0; i < size; i++) {
                if (parents[i] == parent && children[i] == child) {
                    return i;
                }
            }
            return NO_LINK;
        }

        void drop(int parent, int child) {
            int index = indexOf(parent, child);
            if (index == NO_LINK) {
                return;
            }
            for (int i = index + 1; i < size; i++) {
                parents[i - 1] = parents[i];
                children[i - 1] = children[i];
            }
            size--;
        }

        void keepParents(long nodeSet) {
            int kept = 0;
            for (int i = 0; i < size; i++) {
                if (((nodeSet >> parents[i]) & 1L) == 1L) {
                    parents[kept] = parents[i];
                    children[kept] = children[i];
                    kept++;
                }
            }
            size = kept;
        }

        int childCount(int parent) {
            int found = 0;
            for (int i = 0; i < size; i++) {
                if (parents[i] == parent) {
                    found++;
                }
            }
            return found;
        }

        int parentCount(int child) {
            int found = 0;
            for (int i = 0; i < size; i++) {
                if (children[i] == child) {
                    found++;
                }
            }
            return found;
        }

        int sharedCount() {
            int found = 0;
            for (int child = 1; child <= MOST_NODES; child++) {
                if (parentCount(child) > 1) {
                    found++;
                }
            }
            return found;
        }

        int position(int parent, int child) {
            int before = 0;
            for (int i = 0; i < size; i++) {
                if (parents[i] == parent) {
                    if (children[i] == child) {
                        return before;
                    }
                    before++;
                }
            }
            return NO_LINK;
        }

        void shiftChild(int parent, int child, int by) {
            int step = by < 0 ? -1 : 1;
            int left = Math.abs(by);
            int at = indexOf(parent, child);
            if (at == NO_LINK) {
                return;
            }
            for (int next = at + step; next >= 0 && next < size && left > 0; next += step) {
                if (parents[next] == parent) {
                    children[at] = children[next];
                    children[next] = child;
                    at = next;
                    left--;
                }
            }
        }
    }

    /** All places in the order of the outline: what is within a place follows it, with greater levels. */
    private static final class Places {
        final int[] nodes = new int[MOST_PLACES];
        final int[] levels = new int[MOST_PLACES];
        final int[] folds = new int[MOST_PLACES];
        int size;

        void copyFrom(Places other) {
            size = other.size;
            System.arraycopy(other.nodes, 0, nodes, 0, MOST_PLACES);
            System.arraycopy(other.levels, 0, levels, 0, MOST_PLACES);
            System.arraycopy(other.folds, 0, folds, 0, MOST_PLACES);
        }

        int append(int node, int level, int folded) {
            // No way is longer than all nodes; so this also bounds how deep State.grow() goes.
            if (size < 0 || size >= MOST_PLACES || level > MOST_NODES) {
                return NO_PLACE;
            }
            nodes[size] = node;
            levels[size] = level;
            folds[size] = folded;
            size++;
            return size - 1;
        }

        int childPlace(int parent, int child) {
            if (parent < ROOT_PLACE) {
                return NO_PLACE;
            }
            int level = levelOf(parent) + 1;
            for (int place = parent + 1; place < size && levels[place] >= level; place++) {
                if (levels[place] == level && nodes[place] == child) {
                    return place;
                }
            }
            return NO_PLACE;
        }

        private boolean isThere(int place) {
            return place >= 0 && place < size && place < MOST_PLACES;
        }

        int nodeOf(int place) {
            return isThere(place) ? nodes[place] : ROOT;
        }

        int levelOf(int place) {
            return isThere(place) ? levels[place] : 0;
        }

        int foldOf(int place) {
            return isThere(place) ? folds[place] : 0;
        }

        void setFold(int place, int folded) {
            if (isThere(place)) {
                folds[place] = folded;
            }
        }

        /** The end, not included, of what is within a place. */
        int endOf(int place) {
            int level = levelOf(place);
            for (int next = Math.max(place + 1, 0); next < size; next++) {
                if (levels[next] <= level) {
                    return next;
                }
            }
            return size;
        }

        boolean hasChildren(int place) {
            return levelOf(place + 1) > levelOf(place);
        }

        /** The place at a level that a place is or is within; the root for a level below 1. */
        int atLevel(int place, int level) {
            for (int back = Math.min(place, size - 1); back >= 0; back--) {
                if (levels[back] == level) {
                    return back;
                }
            }
            return ROOT_PLACE;
        }

        int parentOf(int place) {
            return atLevel(place, levelOf(place) - 1);
        }

        int firstOf(int node) {
            for (int place = 0; place < size; place++) {
                if (nodes[place] == node) {
                    return place;
                }
            }
            return NO_PLACE;
        }

        int countOf(int node) {
            int found = 0;
            for (int place = 0; place < size; place++) {
                if (nodes[place] == node) {
                    found++;
                }
            }
            return found;
        }

        long nodeSet() {
            return nodesWithin(ROOT_PLACE);
        }

        /** The nodes within a place, each as the bit of its number. */
        long nodesWithin(int place) {
            long found = 0L;
            int end = endOf(place);
            for (int next = Math.max(place + 1, 0); next < end; next++) {
                found |= 1L << nodes[next];
            }
            return found;
        }

        int foldedCount() {
            int found = 0;
            for (int place = 0; place < size; place++) {
                found += folds[place];
            }
            return found;
        }

        int greatestLevel() {
            int greatest = 0;
            for (int place = 0; place < size; place++) {
                greatest = Math.max(greatest, levels[place]);
            }
            return greatest;
        }

        boolean foldAtLevel(int level) {
            boolean changed = false;
            for (int place = 0; place < size; place++) {
                boolean opens = levels[place] < level && folds[place] == 1;
                boolean closes = levels[place] == level && folds[place] == 0 && hasChildren(place);
                if (opens || closes) {
                    folds[place] = closes ? 1 : 0;
                    changed = true;
                }
            }
            return changed;
        }

        /** Unfolds all places that a place is within; answers whether one was folded. */
        boolean unfoldAround(int place) {
            boolean changed = false;
            int level = levelOf(place);
            for (int back = Math.min(place, size) - 1; back >= 0; back--) {
                if (levels[back] < level) {
                    level = levels[back];
                    changed = changed || folds[back] == 1;
                    folds[back] = 0;
                }
            }
            return changed;
        }
    }

    /** All that an act can change and that undo() brings back. */
    private static final class State {
        final Nodes nodes = new Nodes();
        final Links links = new Links();
        final Places places = new Places();

        void copyFrom(State other) {
            nodes.copyFrom(other.nodes);
            links.copyFrom(other.links);
            places.copyFrom(other.places);
        }

        void clearNodes() {
            nodes.made = 0;
            links.size = 0;
        }

        /** Makes the places of the links; those that were there before keep their folds. */
        boolean placeAgain(Places before) {
            places.size = 0;
            return grow(this, before, ROOT_PLACE, ROOT_PLACE, 1);
        }

        /** Makes the places of the links, none of them folded. */
        boolean placeAnew() {
            places.size = 0;
            return grow(this, places, ROOT_PLACE, NO_PLACE, 1);
        }

        /**
         * Makes all places within a place, from a level on. The place was the place old of those
         * before, or NO_PLACE if it is new. Answers whether there is room.
         */
        private static boolean grow(State state, Places before, int place, int old, int level) {
            Links links = state.links;
            int parent = state.places.nodeOf(place);
            for (int i = 0; i < links.size; i++) {
                if (links.parents[i] == parent) {
                    int child = links.children[i];
                    int oldNext = before.childPlace(old, child);
                    int next = state.places.append(child, level, before.foldOf(oldNext));
                    if (next == NO_PLACE || !grow(state, before, next, oldNext, level + 1)) {
                        return false;
                    }
                }
            }
            return true;
        }

        int dropVanished(long nodesBefore) {
            long nodesLeft = places.nodeSet();
            links.keepParents(nodesLeft | (1L << ROOT));
            return Long.bitCount(nodesBefore & ~nodesLeft);
        }
    }

    /** Which places are seen; made anew whenever the current state is another. */
    private static final class Rows {
        final int[] placeOfRow = new int[MOST_PLACES];
        final int[] rowOfPlace = new int[MOST_PLACES];
        int size;

        void refresh(Places places) {
            size = 0;
            int greatestSeen = MOST_NODES;
            for (int place = 0; place < places.size; place++) {
                int level = places.levels[place];
                if (level > greatestSeen || size >= MOST_PLACES) {
                    rowOfPlace[place] = NONE;
                } else {
                    rowOfPlace[place] = size;
                    placeOfRow[size] = place;
                    size++;
                    greatestSeen = places.folds[place] == 1 ? level : MOST_NODES;
                }
            }
        }

        int placeOf(int row) {
            return row >= 0 && row < size && row < MOST_PLACES ? placeOfRow[row] : NO_PLACE;
        }

        int rowOf(int place) {
            return place >= 0 && place < MOST_PLACES ? rowOfPlace[place] : NONE;
        }

        int seenBetween(int from, int end) {
            int seen = 0;
            for (int place = from; place < end; place++) {
                if (rowOf(place) != NONE) {
                    seen++;
                }
            }
            return seen;
        }

        int seenOf(Places places, int node) {
            int seen = 0;
            for (int row = 0; row < size; row++) {
                if (places.nodeOf(placeOfRow[row]) == node) {
                    seen++;
                }
            }
            return seen;
        }

        int firstOf(Places places, int node) {
            for (int row = 0; row < size; row++) {
                if (places.nodeOf(placeOfRow[row]) == node) {
                    return row;
                }
            }
            return NONE;
        }
    }

    /** The latest states, in a ring, so that dropping the oldest one moves nothing. */
    private static final class History {
        final State[] ring = new State[MOST_STATES];
        int oldest;
        int size;

        History() {
            for (int i = 0; i < MOST_STATES; i++) {
                ring[i] = new State();
            }
        }

        void push(State state) {
            if (size >= MOST_STATES) {
                oldest = (oldest + 1) % MOST_STATES;
                size = MOST_STATES - 1;
            }
            ring[Math.floorMod(oldest + size, MOST_STATES)].copyFrom(state);
            size++;
        }

        boolean popInto(State state) {
            if (size <= 0) {
                return false;
            }
            size--;
            state.copyFrom(ring[Math.floorMod(oldest + size, MOST_STATES)]);
            return true;
        }
    }

    /** Reads the text of an outline into the nodes and links of an empty state. */
    private static final class Reader {
        private static final int NO_NODE = -1;

        // The nodes whose lists are open, the root's, which is the whole text, first.
        final int[] open = new int[MOST_TYPED + 1];
        final int[] nodeOfLetter = new int[ALPHABET];
        int depth;
        boolean letterIsDue;
        // The node of the letter before, if a list of its own may follow.
        int mayOpen;

        /** Answers the index of the fault, or NO_FAULT. */
        int read(Typed text, State into) {
            begin();
            for (int i = 0; i < text.length; i++) {
                int code = text.codeAt(i);
                boolean allowed = letterIsDue ? takeLetter(code, into) : takeSign(code);
                if (!allowed) {
                    return i;
                }
            }
            return letterIsDue || depth > 0 ? text.length : NO_FAULT;
        }

        private void begin() {
            depth = 0;
            open[0] = ROOT;
            letterIsDue = true;
            mayOpen = NO_NODE;
            for (int i = 0; i < ALPHABET; i++) {
                nodeOfLetter[i] = NO_NODE;
            }
        }

        private boolean takeLetter(int code, State into) {
            int letter = code - 'a';
            if (letter < 0 || letter >= ALPHABET || depth < 0 || depth > MOST_TYPED) {
                return false;
            }
            int parent = open[depth];
            int known = nodeOfLetter[letter];
            mayOpen = NO_NODE;
            if (known == NO_NODE) {
                known = into.nodes.makeNode();
                into.nodes.setLetter(known, code);
                nodeOfLetter[letter] = known;
                mayOpen = known;
            } else if (isOpen(known) || into.links.indexOf(parent, known) != NO_LINK) {
                return false;
            }
            letterIsDue = false;
            return into.links.append(parent, known);
        }

        private boolean isOpen(int node) {
            for (int i = 1; i <= depth && i <= MOST_TYPED; i++) {
                if (open[i] == node) {
                    return true;
                }
            }
            return false;
        }

        private boolean takeSign(int code) {
            if (code == ',') {
                letterIsDue = true;
                return true;
            }
            if (code == '(' && mayOpen != NO_NODE && depth < MOST_TYPED) {
                depth++;
                open[depth] = mayOpen;
                letterIsDue = true;
                return true;
            }
            if (code == ')' && depth > 0) {
                depth--;
                mayOpen = NO_NODE;
                return true;
            }
            return false;
        }
    }
}
