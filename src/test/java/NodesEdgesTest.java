import java.util.function.Consumer;

/** Each sentence of the promises 1 to 8 that names a boundary. */
public final class NodesEdgesTest {
    private static final int UNKNOWN = Edges.UNKNOWN;
    private static final int BAD_VALUE = Edges.BAD_VALUE;
    private static final int FULL = Edges.FULL;
    private static final int NOT_POSSIBLE = Edges.NOT_POSSIBLE;
    private static final int NONE = Edges.NONE;
    private static final Edges edges = new Edges("NodesEdgesTest");

    public static void main(String[] args) {
        emptyOutline();
        addWithTheText();
        addAsTheLastChild();
        addFull();
        cloneAsTheLastChild();
        cloneNotPossible();
        cloneFull();
        moveAway();
        moveInAllPlaces();
        moveNotPossible();
        moveFull();
        cutInAllPlaces();
        cutVanish();
        shiftBy();
        shiftPositions();
        editText();
        editSame();
        marks();
        edges.end();
    }

    private static Outline x(Consumer<Outline> setup) {
        return Edges.made(setup).get();
    }

    /** Promise 1: "Creates an empty outline." */
    private static void emptyOutline() {
        for (int what = 0; what <= 8; what++) {
            edges.due("1: count(" + what + ")", new Outline().count(what), 0);
        }
        edges.dueText("1: rows", new Outline().rows(), "");
        edges.due("1: no history", new Outline().undo(), NONE);
        edges.due("1: no snapshot", new Outline().restore(), NONE);
        edges.due("1: no text", new Outline().clearText(), 0);
        edges.due("1: the first number", new Outline().text("n").add(-1), 1);
        Outline one = new Outline();
        Outline other = new Outline();
        one.read("a(b)");
        one.keep();
        edges.due("1: another object has its own rows", other.count(3), 0);
        edges.due("1: its own text", other.count(8), 0);
        edges.due("1: its own history", other.count(7), 0);
        edges.due("1: its own snapshot", other.restore(), NONE);
    }

    /** Promise 2: "Adds a new node with the text, which stays"; "BAD_VALUE if the text has not 1 to 8 characters" */
    private static void addWithTheText() {
        for (int length : new int[] {1, 2, 7, 8}) {
            String text = "12345678".substring(0, length);
            edges.act("2: a text of " + length, Edges.reading("a", text), x -> x.add(0), 2, "1:1 2:2");
            Outline x = x(Edges.reading("a", text));
            x.add(0);
            edges.dueText("2: the node has the text of " + length, x.textOf(1), text);
            edges.due("2: the text of " + length + " stays", x.count(8), length);
            edges.due("2: for the next", x.add(-1), 3);
            edges.dueText("2: that has it, too", x.textOf(2), text);
            edges.dueText("2: the parent has its own", x.textOf(0), "a");
        }
        for (int length : new int[] {0, 9, 10, 59, 60}) {
            edges.still("2: a text of " + length, Edges.reading("a", "n".repeat(length)), x -> x.add(0), BAD_VALUE);
            edges.still("2: a text of " + length + " at the top", Edges.reading("a", "n".repeat(length)), x -> x.add(-1), BAD_VALUE);
        }
        edges.still("2: a new object has no text", Edges.NOTHING, x -> x.add(-1), BAD_VALUE);
        Outline eights = x(Edges.adding(3, "abcdefgh").andThen(x -> x.text("12345678").edit(1)));
        edges.dueText("7: the node before keeps its text", eights.textOf(0), "abcdefgh");
        edges.dueText("7: the node itself does not", eights.textOf(1), "12345678");
        edges.dueText("7: the node behind keeps its text", eights.textOf(2), "abcdefgh");
        eights.text("last").add(-1);
        edges.dueText("2: the node before has its text", eights.textOf(2), "abcdefgh");
        edges.dueText("2: the text of node 40", x(Edges.adding(40, "abcdefgh")).textOf(39), "abcdefgh");
        edges.dueText("7: the text of node 40", x(Edges.adding(40, "n").andThen(x -> x.text("abcdefgh").edit(39))).textOf(39), "abcdefgh");
        Outline x = x(Edges.reading("a", "one"));
        x.add(0);
        x.text("other");
        edges.dueText("2: the node keeps its text", x.textOf(1), "one");
    }

    /** Promise 2: "as the last child of the node of a row"; "row: a row, or -1 for the root" */
    private static void addAsTheLastChild() {
        Consumer<Outline> setup = Edges.reading("a(b(c),d),e");
        edges.act("2: to the first row", setup, x -> x.add(0), 6, "1:1 2:2 3:3 2:4 2:6 1:5");
        edges.act("2: to a row with one child", setup, x -> x.add(1), 6, "1:1 2:2 3:3 3:6 2:4 1:5");
        edges.act("2: to a row without children", setup, x -> x.add(3), 6, "1:1 2:2 3:3 2:4 3:6 1:5");
        edges.act("2: to the last row", setup, x -> x.add(4), 6, "1:1 2:2 3:3 2:4 1:5 2:6");
        edges.act("2: to the root", setup, x -> x.add(-1), 6, "1:1 2:2 3:3 2:4 1:5 1:6");
        edges.still("2: behind the last row", setup, x -> x.add(5), UNKNOWN);
        edges.still("2: ahead of the root", setup, x -> x.add(-2), UNKNOWN);
        Consumer<Outline> folded = setup.andThen(x -> x.fold(0, true));
        edges.act("2: to a row that is folded", folded, x -> x.add(0), 6, "1:1+ 1:5");
        edges.due("2: its place is there", x(folded.andThen(x -> x.add(0))).count(2), 6);
        Consumer<Outline> clones = Edges.reading("a(b),c(b)");
        edges.act("2: in all places of the node", clones, x -> x.add(3), 4, "1:1 2:2 3:4 1:3 2:2 3:4");
    }

    /** Promise 2: "FULL if there have been 40 nodes, or there would be more than 120 places" */
    private static void addFull() {
        edges.act("2: the 40th node", Edges.adding(39, "n"), x -> x.add(38), 40, null);
        edges.still("2: the 41st node", Edges.adding(40, "n"), x -> x.add(0), FULL);
        edges.still("2: after a cut", Edges.adding(40, "n").andThen(x -> x.cut(0)), x -> x.add(-1), FULL);
        edges.act("2: the 120th place", Edges.places(119), x -> x.add(118), 11, null);
        edges.still("2: the 121st place", Edges.places(120), x -> x.add(119), FULL);
        // a, the row 0, has 58 places.
        edges.still("2: many places too many", Edges.places(118), x -> x.add(0), FULL);
        Outline x = x(Edges.places(120));
        x.add(-1);
        edges.due("2: a refused node is not made", x.count(1), 11);
        x.cut(119);
        edges.due("2: its number is not lost", x.add(-1), 12);
    }

    /** Promise 3: "Makes the node of a row the last child of the node of another row, too. ... number of places" */
    private static void cloneAsTheLastChild() {
        Consumer<Outline> setup = Edges.reading("a(b),c(d),e");
        edges.act("3: to the end of c", setup, x -> x.cloneTo(0, 2), 2, "1:1 2:2 1:3 2:4 2:1 3:2 1:5");
        edges.act("3: to a row without children", setup, x -> x.cloneTo(0, 4), 2, "1:1 2:2 1:3 2:4 1:5 2:1 3:2");
        edges.act("3: to the root", setup, x -> x.cloneTo(1, -1), 2, "1:1 2:2 1:3 2:4 1:5 1:2");
        edges.act("3: to the first row", setup, x -> x.cloneTo(4, 0), 2, "1:1 2:2 2:5 1:3 2:4 1:5");
        edges.act("3: without what is within it", setup, x -> x.cloneTo(3, 1), 2, "1:1 2:2 3:4 1:3 2:4 1:5");
        Consumer<Outline> clones = Edges.reading("a(b),c(b),d(c),e");
        edges.act("3: to all places of b", clones, x -> x.cloneTo(7, 1), 4, "1:1 2:2 3:5 1:3 2:2 3:5 1:4 2:3 3:2 4:5 1:5");
        edges.act("3: one more of three places", clones, x -> x.cloneTo(1, 4), 4, "1:1 2:2 1:3 2:2 1:4 2:3 3:2 2:2 1:5");
        edges.act("3: another place of the same node", clones, x -> x.cloneTo(5, 7), 3, "1:1 2:2 1:3 2:2 1:4 2:3 3:2 1:5 2:3 3:2");
        Consumer<Outline> folded = setup.andThen(x -> x.fold(2, true)).andThen(x -> x.fold(0, true));
        edges.act("3: to a row that is folded", folded, x -> x.cloneTo(2, 1), 2, "1:1+ 1:3+ 1:5");
        edges.still("3: behind the last row", setup, x -> x.cloneTo(5, -1), UNKNOWN);
        edges.still("3: to behind the last row", setup, x -> x.cloneTo(0, 5), UNKNOWN);
        edges.still("3: the root", setup, x -> x.cloneTo(-1, 0), UNKNOWN);
        edges.still("3: the root to the root", setup, x -> x.cloneTo(-1, -1), UNKNOWN);
        edges.still("3: to ahead of the root", setup, x -> x.cloneTo(0, -2), UNKNOWN);
    }

    /** Promise 3: "NOT_POSSIBLE if it would stand within itself, or is a child of that node already" */
    private static void cloneNotPossible() {
        Consumer<Outline> setup = Edges.reading("a(b(c)),d(b)");
        edges.still("3: into itself", setup, x -> x.cloneTo(0, 0), NOT_POSSIBLE);
        edges.still("3: into its child", setup, x -> x.cloneTo(0, 1), NOT_POSSIBLE);
        edges.still("3: into what is within its child", setup, x -> x.cloneTo(0, 2), NOT_POSSIBLE);
        edges.still("3: into its child in another place", setup, x -> x.cloneTo(0, 4), NOT_POSSIBLE);
        edges.still("3: into another place of itself", setup, x -> x.cloneTo(1, 4), NOT_POSSIBLE);
        edges.still("3: a child of its parent", setup, x -> x.cloneTo(1, 0), NOT_POSSIBLE);
        edges.still("3: a child of another parent of it", setup, x -> x.cloneTo(1, 3), NOT_POSSIBLE);
        edges.still("3: a child of its parent in another place", setup, x -> x.cloneTo(2, 4), NOT_POSSIBLE);
        edges.still("3: a child of the root", setup, x -> x.cloneTo(3, -1), NOT_POSSIBLE);
        edges.act("3: beside its parent", setup, x -> x.cloneTo(2, 0), 3, "1:1 2:2 3:3 2:3 1:4 2:2 3:3");
        edges.act("3: the parent in the other", setup, x -> x.cloneTo(3, 0), 2, "1:1 2:2 3:3 2:4 3:2 4:3 1:4 2:2 3:3");
    }

    /** Promise 3: "FULL if there would be more than 120 places" */
    private static void cloneFull() {
        edges.act("3: the 120th place", Edges.places(119), x -> x.cloneTo(117, 118), 2, null);
        edges.still("3: the 121st place", Edges.places(120), x -> x.cloneTo(118, 119), FULL);
        edges.still("3: many places too many", Edges.places(119), x -> x.cloneTo(118, 0), FULL);
        // f is the row 31, with 31 places within it; so it brings 32 more. e brings 16, d 8.
        Consumer<Outline> setup = Edges.reading(Edges.FAN).andThen(x -> x.add(-1));
        edges.act("3: 32 more", setup, x -> x.cloneTo(31, 63), 2, null);
        edges.due("3: places then", x(setup.andThen(x -> x.cloneTo(31, 63))).count(2), 96);
        Consumer<Outline> more = setup.andThen(x -> x.cloneTo(31, 63)).andThen(x -> x.cloneTo(15, 63));
        edges.due("3: 16 more", x(more).count(2), 112);
        edges.act("3: 8 more", more, x -> x.cloneTo(7, 63), 8, null);
        edges.due("3: 120 places", x(more.andThen(x -> x.cloneTo(7, 63))).count(2), 120);
        edges.still("3: 8 more and one", more.andThen(x -> x.add(-1)), x -> x.cloneTo(7, 63), FULL);
    }

    /** Promise 4: "Takes the node of a row away from its parent in this place, and makes it the last child of ..." */
    private static void moveAway() {
        Consumer<Outline> setup = Edges.reading("a(b(c),d),e");
        edges.act("4: to the end of e", setup, x -> x.move(1, 4), 1, "1:1 2:4 1:5 2:2 3:3");
        edges.act("4: to the root", setup, x -> x.move(1, -1), 1, "1:1 2:4 1:5 1:2 2:3");
        edges.act("4: to the first row", setup, x -> x.move(4, 0), 1, "1:1 2:2 3:3 2:4 2:5");
        edges.act("4: to its sibling", setup, x -> x.move(3, 1), 1, "1:1 2:2 3:3 3:4 1:5");
        edges.act("4: the first of the top", setup, x -> x.move(0, 4), 1, "1:5 2:1 3:2 4:3 3:4");
        edges.act("4: up by one", setup, x -> x.move(2, 0), 1, "1:1 2:2 2:4 2:3 1:5");
        edges.still("4: behind the last row", setup, x -> x.move(5, -1), UNKNOWN);
        edges.still("4: to behind the last row", setup, x -> x.move(0, 5), UNKNOWN);
        edges.still("4: the root", setup, x -> x.move(-1, 0), UNKNOWN);
        edges.still("4: to ahead of the root", setup, x -> x.move(0, -2), UNKNOWN);
        Consumer<Outline> folded = Edges.reading("a(b),c").andThen(x -> x.fold(0, true));
        edges.act("4: to a row that is folded", folded, x -> x.move(1, 0), 1, "1:1+");
    }

    /** Promise 4: "So it moves in all places of both"; "the number of places of the node then" */
    private static void moveInAllPlaces() {
        Consumer<Outline> setup = Edges.reading("a(b),c(a),d,e(d)");
        edges.act("4: out of both places of a", setup, x -> x.move(1, 5), 2, "1:1 1:3 2:1 1:4 2:2 1:5 2:4 3:2");
        edges.act("4: out of the other place", setup, x -> x.move(4, 5), 2, "1:1 1:3 2:1 1:4 2:2 1:5 2:4 3:2");
        edges.act("4: to one place", setup, x -> x.move(1, 6), 1, "1:1 1:3 2:1 1:4 1:5 2:4 2:2");
        Consumer<Outline> parents = Edges.reading("a(b),c(b),d");
        edges.act("4: other parents keep it", parents, x -> x.move(1, 4), 2, "1:1 1:3 2:2 1:4 2:2");
        edges.act("4: the parent in this place loses it", parents, x -> x.move(3, 4), 2, "1:1 2:2 1:3 1:4 2:2");
        edges.act("4: to the root, from one of two", parents, x -> x.move(3, -1), 2, "1:1 2:2 1:3 1:4 1:2");
    }

    /** Promise 4: "(it cannot move to the parent that it has here)"; "NOT_POSSIBLE if it would stand within itself, or ..." */
    private static void moveNotPossible() {
        Consumer<Outline> setup = Edges.reading("a(b(c)),d(b)");
        edges.still("4: to the parent that it has here", setup, x -> x.move(1, 0), NOT_POSSIBLE);
        edges.still("4: to the root that it has here", setup, x -> x.move(3, -1), NOT_POSSIBLE);
        edges.still("4: to a parent that it has elsewhere", setup, x -> x.move(1, 3), NOT_POSSIBLE);
        edges.still("4: to another place of its parent", setup, x -> x.move(2, 4), NOT_POSSIBLE);
        edges.still("4: into itself", setup, x -> x.move(0, 0), NOT_POSSIBLE);
        edges.still("4: into its child", setup, x -> x.move(0, 1), NOT_POSSIBLE);
        edges.still("4: into what is within its child", setup, x -> x.move(0, 2), NOT_POSSIBLE);
        edges.still("4: into its child in another place", setup, x -> x.move(0, 4), NOT_POSSIBLE);
        edges.still("4: into another place of itself", setup, x -> x.move(1, 4), NOT_POSSIBLE);
        edges.act("4: to a parent that it has not", setup, x -> x.move(2, 3), 1, "1:1 2:2 1:4 2:2 2:3");
    }

    /** Promise 4: "FULL if there would be more than 120 places" */
    private static void moveFull() {
        edges.act("4: 120 stay", Edges.places(120), x -> x.move(118, 119), 1, null);
        edges.act("4: 120 become less", Edges.places(120), x -> x.move(0, 119), 32 + 26, null);
        edges.act("4: 119 become 120", Edges.places(119), x -> x.move(118, 31), 2, null);
        edges.still("4: 120 would become 121", Edges.places(120), x -> x.move(119, 31), FULL);
        edges.still("4: 119 would become many", Edges.places(119), x -> x.move(118, 0), FULL);
    }

    /** Promise 5: "Takes the node of a row away from its parent in this place (so in all places of the parent)." */
    private static void cutInAllPlaces() {
        Consumer<Outline> setup = Edges.reading("a(b(c),d),e(a)");
        edges.act("5: in both places of a", setup, x -> x.cut(1), 2, "1:1 2:4 1:5 2:1 3:4");
        edges.act("5: by the other place", setup, x -> x.cut(6), 2, "1:1 2:4 1:5 2:1 3:4");
        edges.act("5: in all places of b", setup, x -> x.cut(7), 1, "1:1 2:2 2:4 1:5 2:1 3:2 3:4");
        edges.act("5: from the root alone", setup, x -> x.cut(0), 0, "1:5 2:1 3:2 4:3 3:4");
        edges.act("5: from e alone", setup, x -> x.cut(5), 0, "1:1 2:2 3:3 2:4 1:5");
        edges.act("5: the last row", setup, x -> x.cut(8), 1, "1:1 2:2 3:3 1:5 2:1 3:2 4:3");
        edges.still("5: behind the last row", setup, x -> x.cut(9), UNKNOWN);
        edges.still("5: the root", setup, x -> x.cut(-1), UNKNOWN);
        edges.still("5: in an empty outline", Edges.NOTHING, x -> x.cut(0), UNKNOWN);
    }

    /** Promise 5: "Nodes that cannot be reached any more vanish. ... Returns how many nodes vanish" */
    private static void cutVanish() {
        edges.act("5: one", Edges.reading("a,b"), x -> x.cut(0), 1, "1:2");
        edges.act("5: with all within it", Edges.reading("a(b(c)),d"), x -> x.cut(0), 3, "1:4");
        edges.act("5: each once", Edges.reading("a(b(c),d(c,b)),e"), x -> x.cut(0), 4, "1:5");
        edges.act("5: but those with another parent", Edges.reading("a(b(c),d),e(c)"), x -> x.cut(0), 3, "1:5 2:3");
        edges.act("5: and what these have", Edges.reading("a(b(c),d),e(b)"), x -> x.cut(0), 2, "1:5 2:2 3:3");
        edges.act("5: a folded one, too", Edges.reading("a(b(c)),d").andThen(x -> x.fold(0, true)), x -> x.cut(0), 3, "1:4");
        edges.act("5: none of two places", Edges.reading("a(b),c(b)"), x -> x.cut(1), 0, "1:1 1:3 2:2");
        edges.act("5: all", Edges.reading("a(b(c))"), x -> x.cut(0), 3, "");
        edges.act("5: forty", Edges.family(), x -> x.cut(0), 40, "");
    }

    /** Promise 6: "by: -39 to 39, not 0: by how many positions it comes later" */
    private static void shiftBy() {
        Consumer<Outline> setup = Edges.adding(40, "n");
        edges.act("6: 39 later", setup, x -> x.shift(0, 39), 39, null);
        edges.due("6: it is the last", x(setup.andThen(x -> x.shift(0, 39))).row(39, 0), 1);
        edges.due("6: the second is the first", x(setup.andThen(x -> x.shift(0, 39))).row(0, 0), 2);
        edges.act("6: 39 earlier", setup, x -> x.shift(39, -39), 0, null);
        edges.due("6: it is the first", x(setup.andThen(x -> x.shift(39, -39))).row(0, 0), 40);
        edges.due("6: the first is the second", x(setup.andThen(x -> x.shift(39, -39))).row(1, 0), 1);
        for (int by : new int[] {0, 40, -40, 41, -41, Integer.MAX_VALUE, Integer.MIN_VALUE}) {
            edges.still("6: by " + by, setup, x -> x.shift(20, by), BAD_VALUE);
        }
        edges.still("6: 39 from the second", setup, x -> x.shift(1, 39), NOT_POSSIBLE);
        edges.still("6: -39 from the last but one", setup, x -> x.shift(38, -39), NOT_POSSIBLE);
        edges.still("6: UNKNOWN before BAD_VALUE", setup, x -> x.shift(40, 40), UNKNOWN);
        edges.still("6: the root", setup, x -> x.shift(-1, 1), UNKNOWN);
        edges.still("6: BAD_VALUE before NOT_POSSIBLE, later", Edges.reading("a"), x -> x.shift(0, 40), BAD_VALUE);
        edges.still("6: BAD_VALUE before NOT_POSSIBLE, earlier", Edges.reading("a"), x -> x.shift(0, -40), BAD_VALUE);
        edges.still("6: BAD_VALUE though it is there", Edges.reading("a"), x -> x.shift(0, 0), BAD_VALUE);
    }

    /** Promise 6: "Returns its position then, from 0; ... NOT_POSSIBLE if there is no such position" */
    private static void shiftPositions() {
        Consumer<Outline> setup = Edges.reading("a(b,c(x),d),e,f(c,a)");
        edges.act("6: one later", setup, x -> x.shift(1, 1), 1, "1:1 2:3 3:4 2:2 2:5 1:6 1:7 2:3 3:4 2:1 3:3 4:4 3:2 3:5");
        edges.act("6: to the last", setup, x -> x.shift(1, 2), 2, "1:1 2:3 3:4 2:5 2:2 1:6 1:7 2:3 3:4 2:1 3:3 4:4 3:5 3:2");
        edges.act("6: to the first", setup, x -> x.shift(4, -2), 0, "1:1 2:5 2:2 2:3 3:4 1:6 1:7 2:3 3:4 2:1 3:5 3:2 3:3 4:4");
        edges.still("6: behind the last", setup, x -> x.shift(1, 3), NOT_POSSIBLE);
        edges.still("6: ahead of the first", setup, x -> x.shift(4, -3), NOT_POSSIBLE);
        edges.still("6: the first earlier", setup, x -> x.shift(1, -1), NOT_POSSIBLE);
        edges.still("6: the last later", setup, x -> x.shift(4, 1), NOT_POSSIBLE);
        edges.still("6: behind the last of the top", setup, x -> x.shift(0, 3), NOT_POSSIBLE);
        edges.act("6: the last of the top", setup.andThen(x -> x.fold(6, true)), x -> x.shift(0, 2), 2, "1:6 1:7+ 1:1 2:2 2:3 3:4 2:5");
        edges.act("6: other parents keep their order", setup, x -> x.shift(7, 1), 1, "1:1 2:2 2:3 3:4 2:5 1:6 1:7 2:1 3:2 3:3 4:4 3:5 2:3 3:4");
        edges.still("6: an only child", Edges.reading("a(b)"), x -> x.shift(1, 1), NOT_POSSIBLE);
        edges.still("6: an only child, earlier", Edges.reading("a(b)"), x -> x.shift(1, -1), NOT_POSSIBLE);
    }

    /** Promise 7: "Gives the node of a row the text, which stays."; "BAD_VALUE if the text has not 1 to 8 characters" */
    private static void editText() {
        Consumer<Outline> places = Edges.reading("a(b),c(b),d(c)");
        for (int length : new int[] {1, 2, 7, 8}) {
            String text = "12345678".substring(0, length);
            Consumer<Outline> setup = places.andThen(x -> x.text(text));
            edges.act("7: a text of " + length, setup, x -> x.edit(1), 3, "1:1 2:2 1:3 2:2 1:4 2:3 3:2");
            Outline x = x(setup.andThen(y -> y.edit(1)));
            edges.due("7: the text stays", x.count(8), length);
            for (int row : new int[] {1, 3, 6}) {
                edges.dueText("7: in the row " + row, x.textOf(row), text);
            }
            edges.dueText("7: not in others", x.textOf(0) + x.textOf(2), "ac");
            edges.due("7: its length", x.node(2, 6), length);
        }
        for (int length : new int[] {0, 9, 10, 60}) {
            Consumer<Outline> setup = places.andThen(x -> x.text("n".repeat(length)));
            edges.still("7: a text of " + length, setup, x -> x.edit(1), BAD_VALUE);
            edges.still("7: UNKNOWN before a text of " + length, setup, x -> x.edit(7), UNKNOWN);
        }
        edges.still("7: the root", places, x -> x.edit(-1), UNKNOWN);
        edges.act("7: the first row", places, x -> x.edit(0), 1, "1:1 2:2 1:3 2:2 1:4 2:3 3:2");
        edges.act("7: the last row", places, x -> x.edit(6), 3, "1:1 2:2 1:3 2:2 1:4 2:3 3:2");
        edges.due("7: a longer text becomes shorter", x(places.andThen(x -> {
            x.text("12345678").edit(0);
            x.text("9").edit(0);
        })).charAt(0, 1), NONE);
    }

    /** Promise 7: "NONE if it is its text already" */
    private static void editSame() {
        edges.still("7: its letter", Edges.reading("a(b)", "b"), x -> x.edit(1), NONE);
        edges.act("7: the letter of another", Edges.reading("a(b)", "b"), x -> x.edit(0), 1, "1:1 2:2");
        Consumer<Outline> eight = Edges.reading("a", "12345678").andThen(x -> x.edit(0));
        edges.still("7: its eight", eight, x -> x.edit(0), NONE);
        edges.act("7: seven of its eight", eight.andThen(x -> x.text("1234567")), x -> x.edit(0), 1, "1:1");
        edges.act("7: another first", eight.andThen(x -> x.text("02345678")), x -> x.edit(0), 1, "1:1");
        edges.act("7: another last", eight.andThen(x -> x.text("12345679")), x -> x.edit(0), 1, "1:1");
        edges.still("7: nine that begin with its eight", eight.andThen(x -> x.type('9')), x -> x.edit(0), BAD_VALUE);
        edges.act("7: two that begin with its letter", Edges.reading("a", "aa"), x -> x.edit(0), 1, "1:1");
        edges.still("7: the same in another place", Edges.reading("a(b),c(b)", "b"), x -> x.edit(3), NONE);
        edges.still("7: UNKNOWN before NONE", Edges.reading("a", "a"), x -> x.edit(1), UNKNOWN);
    }

    /** Promise 8: "Sets a mark of the node of a row, or takes it away if it is set."; "mark: 0 to 4" */
    private static void marks() {
        Consumer<Outline> setup = Edges.reading("a(b),c(b)");
        for (int mark = 0; mark <= 4; mark++) {
            int one = mark;
            edges.act("8: set " + mark, setup, x -> x.mark(1, one), 1 << mark, "1:1 2:2 1:3 2:2");
            Consumer<Outline> set = setup.andThen(x -> x.mark(3, one));
            edges.due("8: in all places, " + mark, x(set).row(1, 5), 1 << mark);
            edges.due("8: of the node, " + mark, x(set).node(2, 4), 1 << mark);
            edges.due("8: not of others, " + mark, x(set).row(0, 5) + x(set).row(2, 5), 0);
            edges.act("8: take " + mark + " away", set, x -> x.mark(1, one), 0, "1:1 2:2 1:3 2:2");
            edges.act("8: set the others to " + mark, set, x -> x.mark(1, (one + 1) % 5), (1 << one) | (1 << (one + 1) % 5), null);
            Consumer<Outline> all = setup.andThen(x -> {
                for (int other = 0; other <= 4; other++) {
                    x.mark(1, other);
                }
            });
            edges.act("8: take " + mark + " of all away", all, x -> x.mark(3, one), 31 - (1 << one), null);
        }
        Consumer<Outline> last = Edges.adding(40, "n").andThen(x -> x.mark(39, 4));
        edges.act("8: another mark of node 40", last, x -> x.mark(39, 0), 17, null);
        edges.act("8: node 40 keeps its mark", last, x -> x.mark(0, 0), 1, null);
        edges.due("8: the nodes beside have none", x(last).row(38, 5) + x(last).row(0, 5), 0);
        edges.due("8: and has it then", x(last.andThen(x -> x.mark(0, 0)).andThen(x -> x.mark(1, 0))).row(39, 5), 16);
        for (int mark : new int[] {-1, 5, 6, 31, 32, 36, -32, Integer.MAX_VALUE, Integer.MIN_VALUE}) {
            edges.still("8: mark " + mark, setup, x -> x.mark(1, mark), BAD_VALUE);
        }
        edges.still("8: behind the last row", setup, x -> x.mark(4, 0), UNKNOWN);
        edges.still("8: UNKNOWN before BAD_VALUE", setup, x -> x.mark(4, -1), UNKNOWN);
        edges.still("8: the root", setup, x -> x.mark(-1, 0), UNKNOWN);
    }
}
