import java.util.LinkedHashMap;
import java.util.Map;
import java.util.function.Consumer;

/** Each sentence of "Terms" that names a boundary: nodes, places, rows and errors. Each method quotes its own. */
public final class TermsEdgesTest {
    private static final int UNKNOWN = Edges.UNKNOWN;
    private static final int BAD_VALUE = Edges.BAD_VALUE;
    private static final int FULL = Edges.FULL;
    private static final int NOT_POSSIBLE = Edges.NOT_POSSIBLE;
    private static final int NONE = Edges.NONE;
    private static final Edges edges = new Edges("TermsEdgesTest");

    public static void main(String[] args) {
        textOfANode();
        marksOfANode();
        childrenAtMostOnce();
        numbersOfNodes();
        mostNodes();
        numbersAreNotGivenAgain();
        numbersThatAreBroughtAlong();
        theRoot();
        neverWithinItself();
        neverWithinItselfByClones();
        vanishing();
        severalPlaces();
        mostPlaces();
        order();
        eachFoldForItself();
        foldsThatStay();
        foldsThatStayWithoutChildren();
        newPlacesAreNotFolded();
        rowsAndFolds();
        levels();
        rowsThatAreNone();
        rootRows();
        unknownFirst();
        noneIsLast();
        edges.end();
    }

    /** "A node has a number, a text of 1 to 8 characters" */
    private static void textOfANode() {
        edges.act("terms: a text of 1", Edges.reading("a", "x"), x -> x.add(-1), 2, "1:1 1:2");
        edges.act("terms: a text of 8", Edges.reading("a", "abcdefgh"), x -> x.add(-1), 2, "1:1 1:2");
        edges.still("terms: no text", Edges.reading("a", ""), x -> x.add(-1), BAD_VALUE);
        edges.still("terms: a text of 9", Edges.reading("a", "abcdefghi"), x -> x.add(-1), BAD_VALUE);
        edges.act("terms: edit to 1", Edges.reading("a", "x"), x -> x.edit(0), 1, "1:1");
        edges.act("terms: edit to 8", Edges.reading("a", "abcdefgh"), x -> x.edit(0), 1, "1:1");
        edges.still("terms: edit to none", Edges.reading("a", ""), x -> x.edit(0), BAD_VALUE);
        edges.still("terms: edit to 9", Edges.reading("a", "abcdefghi"), x -> x.edit(0), BAD_VALUE);
    }

    /** "marks (a bit set of the marks 0 to 4, at first none)" */
    private static void marksOfANode() {
        Outline x = new Outline();
        x.add(x.text("n").add(-1) - 2);
        edges.due("terms: marks of an added node", x.row(0, 5) + x.row(1, 5), 0);
        for (int mark = 0, marks = 0; mark <= 4; mark++) {
            marks += 1 << mark;
            edges.due("terms: mark " + mark, x.mark(1, mark), marks);
        }
        edges.due("terms: the other has none", x.row(0, 5), 0);
        edges.due("terms: a node that is added then", x.add(-1), 3);
        edges.due("terms: has none", x.row(2, 5), 0);
        edges.due("terms: nor has one that is read", x.read("a,b,c") + x.row(0, 5) + x.row(1, 5) + x.row(2, 5), 3);
        edges.still("terms: mark -1", Edges.reading("a"), y -> y.mark(0, -1), BAD_VALUE);
        edges.still("terms: mark 5", Edges.reading("a"), y -> y.mark(0, 5), BAD_VALUE);
    }

    /** "children: a row of nodes, each of them at most once" */
    private static void childrenAtMostOnce() {
        Consumer<Outline> setup = Edges.reading("a(b,c(d)),e(b)");
        edges.still("terms: b is in a", setup, x -> x.cloneTo(5, 0), NOT_POSSIBLE);
        edges.still("terms: b moves to a", setup, x -> x.move(5, 0), NOT_POSSIBLE);
        edges.still("terms: c is in a", setup, x -> x.cloneTo(2, 0), NOT_POSSIBLE);
        edges.still("terms: e is in the root", setup, x -> x.cloneTo(4, -1), NOT_POSSIBLE);
        edges.act("terms: d is not in a", setup, x -> x.cloneTo(3, 0), 2, "1:1 2:2 2:3 3:4 2:4 1:5 2:2");
        edges.still("terms: twice in one list", Edges.reading("a", "a(b,b)"), Outline::readOutline, -104);
    }

    /** "Nodes are numbered from 1 in the order in which they are made" */
    private static void numbersOfNodes() {
        Outline x = new Outline();
        x.text("n");
        edges.due("terms: the first number", x.add(-1), 1);
        edges.due("terms: the second number", x.add(0), 2);
        edges.due("terms: the third number, ahead of the second", x.add(-1), 3);
        edges.due("terms: the fourth number", x.add(0), 4);
        edges.dueText("terms: rows of numbers", x.rows(), "1:1 2:2 2:4 1:3");
    }

    /** "there are at most 40 ever in a state" */
    private static void mostNodes() {
        edges.act("terms: the 40th node", Edges.adding(39, "n"), x -> x.add(-1), 40, null);
        edges.still("terms: the 41st node", Edges.adding(40, "n"), x -> x.add(-1), FULL);
        edges.still("terms: the 41st node in a row", Edges.adding(40, "n"), x -> x.add(39), FULL);
        Consumer<Outline> cut = Edges.adding(40, "n").andThen(x -> x.cut(39));
        edges.still("terms: ever, not now", cut, x -> x.add(-1), FULL);
        Consumer<Outline> cutAll = Edges.chain(40).andThen(x -> x.cut(0));
        edges.still("terms: ever, though none is left", cutAll, x -> x.add(-1), FULL);
        edges.still("terms: there is no node 41", Edges.adding(40, "n"), x -> x.node(41, 0), UNKNOWN);
        edges.still("terms: there is a node 40", Edges.adding(40, "n"), x -> x.node(40, 0), 1);
    }

    /** "(numbers are not given again, ..." */
    private static void numbersAreNotGivenAgain() {
        Consumer<Outline> setup = Edges.reading("a,b,c");
        edges.act("terms: the last number is not given again", setup.andThen(x -> x.cut(2)), x -> x.add(-1), 4, "1:1 1:2 1:4");
        edges.act("terms: the first neither", setup.andThen(x -> x.cut(0)), x -> x.add(-1), 4, "1:2 1:3 1:4");
        Consumer<Outline> cut = Edges.adding(39, "n").andThen(x -> x.cut(38));
        edges.act("terms: number 40 after a cut", cut, x -> x.add(-1), 40, null);
        edges.due("terms: made stays", x(cut).count(1), 39);
    }

    private static Outline x(Consumer<Outline> setup) {
        return Edges.made(setup).get();
    }

    /** "... but by undo(), restore() and readOutline(), which bring their own)" */
    private static void numbersThatAreBroughtAlong() {
        Consumer<Outline> full = Edges.adding(40, "n");
        edges.act("terms: undo brings 39 back", full.andThen(Outline::undo), x -> x.add(-1), 40, null);
        Consumer<Outline> cut = Edges.reading("a,b,c").andThen(x -> x.cut(2)).andThen(Outline::undo);
        edges.act("terms: undo brings node 3 back", cut, x -> x.add(-1), 4, "1:1 1:2 1:3 1:4");
        Consumer<Outline> kept = Edges.reading("a,b").andThen(Outline::keep);
        for (int i = 0; i < 38; i++) {
            kept = kept.andThen(x -> x.add(-1));
        }
        edges.still("terms: 40 are made", kept, x -> x.add(-1), FULL);
        edges.act("terms: restore brings 2", kept.andThen(Outline::restore), x -> x.add(-1), 3, "1:1 1:2 1:3");
        Consumer<Outline> early = x -> x.keep();
        Consumer<Outline> none = early.andThen(full).andThen(Outline::restore);
        edges.act("terms: restore brings none", none, x -> x.add(-1), 1, "1:1");
        Consumer<Outline> read = full.andThen(x -> x.read("c(b)")).andThen(x -> x.text("n"));
        edges.act("terms: readOutline begins with 1", read, x -> x.add(-1), 3, "1:1 2:2 1:3");
        edges.still("terms: undo brings 40", read.andThen(Outline::undo), x -> x.add(-1), FULL);
    }

    /** "The node 0 is the root: it is not seen, and has no text and no marks; its children are the top" */
    private static void theRoot() {
        Consumer<Outline> setup = Edges.reading("a(b),c", "n");
        for (int what = 0; what <= 7; what++) {
            int one = what;
            edges.stillOnce("terms: node(0, " + what + ")", setup, x -> x.node(0, one), UNKNOWN);
        }
        edges.still("terms: show(0)", setup, x -> x.show(0), UNKNOWN);
        edges.still("terms: no text of the root", setup, x -> x.charAt(-1, 0), UNKNOWN);
        edges.still("terms: no mark of the root", setup, x -> x.mark(-1, 0), UNKNOWN);
        edges.still("terms: no text for the root", setup, x -> x.edit(-1), UNKNOWN);
        Outline x = x(setup);
        edges.due("terms: the root is no node that is there", x.count(0), 3);
        edges.due("terms: nor made", x.count(1), 3);
        edges.due("terms: nor a place", x.count(2), 3);
        edges.due("terms: nor a row", x.count(3), 3);
        edges.due("terms: the top is below it", x.row(0, 7), -1);
        edges.due("terms: the top has the level 1", x.row(2, 1), 1);
    }

    /** "No node stands within itself: it is never a child of itself, or of a node within it." */
    private static void neverWithinItself() {
        Consumer<Outline> chain = Edges.chain(40);
        for (int to : new int[] {0, 1, 2, 20, 38, 39}) {
            edges.stillOnce("terms: clone within itself, " + to + " deep", chain, x -> x.cloneTo(0, to), NOT_POSSIBLE);
            edges.stillOnce("terms: move within itself, " + to + " deep", chain, x -> x.move(0, to), NOT_POSSIBLE);
        }
        edges.stillOnce("terms: the last in itself", chain, x -> x.cloneTo(39, 39), NOT_POSSIBLE);
        edges.stillOnce("terms: the last moved in itself", chain, x -> x.move(39, 39), NOT_POSSIBLE);
        edges.stillOnce("terms: one but the last in the last", chain, x -> x.move(38, 39), NOT_POSSIBLE);
        edges.act("terms: the last into the first", chain, x -> x.cloneTo(39, 0), 2, null);
        edges.act("terms: the last moved to the first", chain, x -> x.move(39, 0), 1, null);
        edges.act("terms: beside itself is not within", Edges.reading("a,b"), x -> x.cloneTo(0, 1), 2, "1:1 1:2 2:1");
    }

    /** The same by ways that the row itself does not show: by a clone, and by what is folded. */
    private static void neverWithinItselfByClones() {
        // b is within a within c; the rows 0 a, 1 b are another place of both.
        Consumer<Outline> clones = Edges.reading("a(b),c(a)");
        edges.still("terms: clone c into b", clones, x -> x.cloneTo(2, 1), NOT_POSSIBLE);
        edges.still("terms: move c into b", clones, x -> x.move(2, 1), NOT_POSSIBLE);
        edges.still("terms: clone c into a", clones, x -> x.cloneTo(2, 0), NOT_POSSIBLE);
        edges.still("terms: move c into a", clones, x -> x.move(2, 0), NOT_POSSIBLE);
        edges.still("terms: a into another place of itself", clones, x -> x.cloneTo(0, 3), NOT_POSSIBLE);
        edges.still("terms: a into b in c", clones, x -> x.cloneTo(0, 4), NOT_POSSIBLE);
        Consumer<Outline> folded = clones.andThen(x -> x.fold(2, true));
        edges.still("terms: clone c into b, unseen in c", folded, x -> x.cloneTo(2, 1), NOT_POSSIBLE);
        edges.still("terms: move c into b, unseen in c", folded, x -> x.move(2, 1), NOT_POSSIBLE);
        edges.act("terms: b into c", clones, x -> x.cloneTo(1, 2), 3, "1:1 2:2 1:3 2:1 3:2 2:2");
    }

    /** "A node ... which cannot be reached from the root, vanishes." */
    private static void vanishing() {
        Consumer<Outline> setup = Edges.reading("a(b(c,d),c),e(d,f)");
        edges.act("terms: what is reached otherwise stays", setup, x -> x.cut(0), 3, "1:5 2:4 2:6");
        edges.act("terms: reached by another parent", setup, x -> x.cut(2), 0, "1:1 2:2 3:4 2:3 1:5 2:4 2:6");
        edges.act("terms: its last place", setup, x -> x.cut(7), 1, "1:1 2:2 3:3 3:4 2:3 1:5 2:4");
        edges.act("terms: the last node", Edges.reading("a"), x -> x.cut(0), 1, "");
        edges.act("terms: a chain of 40", Edges.chain(40), x -> x.cut(0), 40, "");
        Consumer<Outline> cut = setup.andThen(x -> x.cut(0));
        for (int node : new int[] {1, 2, 3}) {
            edges.stillOnce("terms: vanished, node " + node, cut, x -> x.node(node, 0), UNKNOWN);
            edges.stillOnce("terms: vanished, show " + node, cut, x -> x.show(node), UNKNOWN);
        }
        Outline x = x(cut);
        edges.due("terms: nodes that are left", x.count(0), 3);
        edges.due("terms: nodes made", x.count(1), 6);
        edges.due("terms: vanished nodes are no parents", x.node(4, 0), 1);
        edges.due("terms: nor shared", x.count(5), 0);
        edges.act("terms: a move lets none vanish", setup, y -> y.move(1, -1), 1, "1:1 2:3 1:5 2:4 2:6 1:2 2:3 2:4");
        edges.due("terms: none vanished", x(setup.andThen(y -> y.move(1, -1))).count(0), 6);
    }

    /** "A node that stands under several parents, or whose ancestors do, has several places." */
    private static void severalPlaces() {
        Outline x = x(Edges.reading("a(b(c)),d(b),e(d,b)"));
        edges.due("terms: places of a", x.node(1, 1), 1);
        edges.due("terms: places of b", x.node(2, 1), 4);
        edges.due("terms: parents of b", x.node(2, 0), 3);
        edges.due("terms: places of c, by its ancestors", x.node(3, 1), 4);
        edges.due("terms: parents of c", x.node(3, 0), 1);
        edges.due("terms: places of d", x.node(4, 1), 2);
        edges.due("terms: places", x.count(2), 1 + 4 + 4 + 2 + 1);
    }

    /** "The outline has at most 120 places (the root is none)." */
    private static void mostPlaces() {
        edges.due("terms: an empty outline has none", new Outline().count(2), 0);
        edges.due("terms: places that are made ready", x(Edges.places(119)).count(2), 119);
        edges.act("terms: add the 120th", Edges.places(119), x -> x.add(-1), 11, null);
        edges.still("terms: add the 121st", Edges.places(120), x -> x.add(-1), FULL);
        edges.act("terms: clone the 120th", Edges.places(119), x -> x.cloneTo(118, 117), 2, null);
        edges.still("terms: clone the 121st", Edges.places(120), x -> x.cloneTo(119, 118), FULL);
        edges.act("terms: move keeps 120", Edges.places(120), x -> x.move(119, 118), 1, null);
        // The node of the row 31, f, has two places.
        edges.act("terms: add makes 120", Edges.places(118), x -> x.add(31), 10, null);
        edges.still("terms: add would make 121", Edges.places(119), x -> x.add(31), FULL);
        edges.act("terms: clone makes 120", Edges.places(118), x -> x.cloneTo(117, 31), 3, null);
        edges.still("terms: clone would make 121", Edges.places(119), x -> x.cloneTo(118, 31), FULL);
        edges.act("terms: move makes 120", Edges.places(119), x -> x.move(118, 31), 2, null);
        edges.still("terms: move would make 121", Edges.places(120), x -> x.move(119, 31), FULL);
        edges.act("terms: read 120", Edges.reading("a", Edges.FAN + ",g(d,e,f)"), Outline::readOutline, 120, null);
        edges.still("terms: read 121", Edges.reading("a", Edges.FAN + ",g(d,e,f),h"), Outline::readOutline, FULL);
        // The same where each place is a child in a way of its own.
        Consumer<Outline> many = Edges.manyChildren();
        edges.due("terms: 120 children", x(many).count(2), 120);
        edges.still("terms: clone the 121st child", many, x -> x.cloneTo(7, -1), FULL);
        edges.still("terms: add would be the 121st child, and the 41st node", many, x -> x.add(-1), FULL);
        edges.act("terms: move one of 120 children", many, x -> x.move(7, -1), 3, null);
        edges.act("terms: cut the last of 120 children", many, x -> x.cut(119), 0, null);
        edges.act("terms: clone the 120th child", many.andThen(x -> x.cut(119)), x -> x.cloneTo(7, -1), 4, null);
        Outline x = x(Edges.places(120));
        edges.due("terms: 120 places", x.count(2), 120);
        edges.due("terms: 120 rows", x.count(3), 120);
        edges.due("terms: the last row", x.row(119, 0), 11);
        edges.due("terms: none behind it", x.row(120, 0), UNKNOWN);
    }

    /** "each place is followed by the places of the children of its node within it, in their order" */
    private static void order() {
        Outline x = x(Edges.reading("c(a(b),d),b,e(a,c)"));
        edges.dueText("terms: order", x.rows(), "1:1 2:2 3:3 2:4 1:3 1:5 2:2 3:3 2:1 3:2 4:3 3:4");
        x.shift(3, -1);
        edges.dueText("terms: order after a shift", x.rows(), "1:1 2:4 2:2 3:3 1:3 1:5 2:2 3:3 2:1 3:4 3:2 4:3");
    }

    /** "Each place is folded or not (at first it is not), for itself" */
    private static void eachFoldForItself() {
        Consumer<Outline> setup = Edges.reading("a(b),c(a),d(a)");
        edges.due("terms: at first none is folded", x(setup).count(4), 0);
        edges.act("terms: the first place alone", setup, x -> x.fold(0, true), 7, "1:1+ 1:3 2:1 3:2 1:4 2:1 3:2");
        edges.act("terms: the second alone", setup, x -> x.fold(3, true), 7, "1:1 2:2 1:3 2:1+ 1:4 2:1 3:2");
        edges.act("terms: the third alone", setup, x -> x.fold(6, true), 7, "1:1 2:2 1:3 2:1 3:2 1:4 2:1+");
        Consumer<Outline> all = setup.andThen(x -> x.fold(6, true)).andThen(x -> x.fold(3, true)).andThen(x -> x.fold(0, true));
        edges.act("terms: unfold one alone", all, x -> x.fold(2, false), 6, "1:1+ 1:3 2:1 3:2 1:4 2:1+");
    }

    /** "a place keeps this as long as it is there" */
    private static void foldsThatStay() {
        Consumer<Outline> setup = Edges.reading("a(b(c),d(e)),f(b),g").andThen(x -> x.fold(1, true));
        edges.act("terms: add within", setup, x -> x.add(1), 8, "1:1 2:2+ 2:4 3:5 1:6 2:2 3:3 3:8 1:7");
        edges.act("terms: shift it", setup, x -> x.shift(1, 1), 1, "1:1 2:4 3:5 2:2+ 1:6 2:2 3:3 1:7");
        edges.act("terms: shift its parent", setup, x -> x.shift(0, 2), 2, "1:6 2:2 3:3 1:7 1:1 2:2+ 2:4 3:5");
        edges.act("terms: shift its sibling", setup, x -> x.shift(2, -1), 0, "1:1 2:4 3:5 2:2+ 1:6 2:2 3:3 1:7");
        edges.act("terms: clone it", setup, x -> x.cloneTo(1, 7), 3, "1:1 2:2+ 2:4 3:5 1:6 2:2 3:3 1:7 2:2 3:3");
        edges.act("terms: clone into it", setup, x -> x.cloneTo(7, 1), 3, "1:1 2:2+ 2:4 3:5 1:6 2:2 3:3 3:7 1:7");
        edges.act("terms: move into it", setup, x -> x.move(7, 1), 2, "1:1 2:2+ 2:4 3:5 1:6 2:2 3:3 3:7");
        edges.act("terms: cut another place of it", setup, x -> x.cut(5), 0, "1:1 2:2+ 2:4 3:5 1:6 1:7");
        edges.act("terms: move another place of it", setup, x -> x.move(5, 7), 2, "1:1 2:2+ 2:4 3:5 1:6 1:7 2:2 3:3");
        edges.act("terms: cut beside it", setup, x -> x.cut(2), 2, "1:1 2:2+ 1:6 2:2 3:3 1:7");
        edges.act("terms: edit it", setup, x -> x.edit(1), 2, "1:1 2:2+ 2:4 3:5 1:6 2:2 3:3 1:7");
        edges.act("terms: mark it", setup, x -> x.mark(1, 1), 2, "1:1 2:2+ 2:4 3:5 1:6 2:2 3:3 1:7");
        edges.act("terms: fold around it", setup, x -> x.fold(0, true), 5, "1:1+ 1:6 2:2 3:3 1:7");
        Consumer<Outline> around = setup.andThen(x -> x.fold(0, true)).andThen(x -> x.shift(0, 1));
        edges.act("terms: unseen it stays so, too", around, x -> x.fold(3, false), 8, "1:6 2:2 3:3 1:1 2:2+ 2:4 3:5 1:7");
    }

    /** "a place keeps this as long as it is there, also if its node has no children any more" */
    private static void foldsThatStayWithoutChildren() {
        Consumer<Outline> setup = Edges.reading("a(b),c(a),d").andThen(x -> x.fold(0, true));
        edges.act("terms: cut the last child", setup, x -> x.cut(3), 1, "1:1+ 1:3 2:1 1:4");
        edges.act("terms: move the last child", setup, x -> x.move(3, 4), 1, "1:1+ 1:3 2:1 1:4 2:2");
        Consumer<Outline> childless = setup.andThen(x -> x.cut(3));
        edges.due("terms: it is counted", x(childless).count(4), 1);
        edges.due("terms: it is told", x(childless).row(0, 4), 1);
        edges.act("terms: a child again, unseen", childless, x -> x.add(0), 5, "1:1+ 1:3 2:1 3:5 1:4");
        edges.act("terms: a clone in it, unseen", childless, x -> x.cloneTo(3, 2), 3, "1:1+ 1:3 2:1 3:4 1:4");
        edges.act("terms: shifted without children", childless, x -> x.shift(0, 2), 2, "1:3 2:1 1:4 1:1+");
        edges.still("terms: not unfolded", childless, x -> x.fold(0, false), NOT_POSSIBLE);
        edges.still("terms: not folded", childless, x -> x.fold(0, true), NOT_POSSIBLE);
        edges.act("terms: unfolded as a lower level", childless, x -> x.foldLevel(2), 4, "1:1 1:3 2:1 1:4");
        edges.act("terms: kept as its own level", childless, x -> x.foldLevel(1), 3, "1:1+ 1:3+ 1:4");
    }

    /** "a place that is new (by move(), too) is not folded" */
    private static void newPlacesAreNotFolded() {
        Consumer<Outline> setup = Edges.reading("a(b(c(d))),e").andThen(x -> x.fold(2, true)).andThen(x -> x.fold(1, true));
        edges.act("terms: new by move", setup, x -> x.move(1, 2), 1, "1:1 1:5 2:2 3:3 4:4");
        edges.due("terms: no folds then", x(setup.andThen(x -> x.move(1, 2))).count(4), 0);
        edges.act("terms: new by move to the root", setup, x -> x.move(1, -1), 1, "1:1 1:5 1:2 2:3 3:4");
        edges.act("terms: new by move of its parent", setup, x -> x.move(0, 2), 1, "1:5 2:1 3:2 4:3 5:4");
        edges.act("terms: new by cloneTo", setup, x -> x.cloneTo(1, 2), 2, "1:1 2:2+ 1:5 2:2 3:3 4:4");
        Consumer<Outline> back = setup.andThen(x -> x.move(1, 2)).andThen(x -> x.move(2, 0));
        edges.act("terms: new by moving back", back, x -> x.fold(0, true), 2, "1:1+ 1:5");
        edges.dueText("terms: moved back", x(back).rows(), "1:1 2:2 3:3 4:4 1:5");
        Consumer<Outline> again = setup.andThen(x -> x.cloneTo(1, 2)).andThen(x -> x.cut(1));
        edges.act("terms: new after a cut", again, x -> x.cloneTo(2, 0), 2, "1:1 2:2 3:3 4:4 1:5 2:2 3:3 4:4");
        edges.act("terms: new by add", setup, x -> x.add(2), 6, "1:1 2:2+ 1:5 2:6");
        edges.act("terms: new by readOutline", setup.andThen(x -> x.text("a(b(c(d))),e")), Outline::readOutline, 5,
            "1:1 2:2 3:3 4:4 1:5");
        edges.act("terms: cut brings no fold to others", setup, x -> x.cut(1), 3, "1:1 1:5");
        // b or c stands at the top, too, and is folded there: its new place deeper down is not.
        Consumer<Outline> top = Edges.reading("a(b(x)),b,e").andThen(x -> x.fold(3, true));
        edges.act("terms: new by cloneTo, not as at the top", top, x -> x.cloneTo(0, 4), 2, "1:1 2:2 3:3 1:2+ 1:4 2:1 3:2 4:3");
        edges.act("terms: new by move, not as at the top", top, x -> x.move(0, 4), 1, "1:2+ 1:4 2:1 3:2 4:3");
        Consumer<Outline> deeper = Edges.reading("a(b(c(x))),c,e").andThen(x -> x.fold(4, true));
        edges.act("terms: new and deeper, not as at the top", deeper, x -> x.cloneTo(0, 5), 2,
            "1:1 2:2 3:3 4:4 1:3+ 1:5 2:1 3:2 4:3 5:4");
        edges.act("terms: moved and deeper, not as at the top", deeper, x -> x.move(0, 5), 1, "1:3+ 1:5 2:1 3:2 4:3 5:4");
        // c moves from b to a while b's other place, its own place in a, and d in e are folded.
        Consumer<Outline> others = Edges.reading("a(b(c(x))),e(b,d(y))").andThen(x -> x.fold(8, true))
            .andThen(x -> x.fold(5, true)).andThen(x -> x.fold(2, true));
        edges.dueText("terms: before", x(others).rows(), "1:1 2:2 3:3+ 1:5 2:2+ 2:6+");
        edges.act("terms: a move leaves other folds", others, x -> x.move(2, 0), 1, "1:1 2:2 2:3 3:4 1:5 2:2+ 2:6+");
    }

    /** "A place is seen if no place that it is within is folded. ... the rows, numbered from 0." */
    private static void rowsAndFolds() {
        Consumer<Outline> setup = Edges.reading("a(b(c(d),e)),f");
        edges.act("terms: a folded place is seen itself", setup, x -> x.fold(0, true), 2, "1:1+ 1:6");
        edges.act("terms: what it is within is seen", setup, x -> x.fold(2, true), 5, "1:1 2:2 3:3+ 3:5 1:6");
        Consumer<Outline> both = setup.andThen(x -> x.fold(2, true)).andThen(x -> x.fold(0, true));
        edges.act("terms: one of two around", both, x -> x.fold(0, false), 5, "1:1 2:2 3:3+ 3:5 1:6");
        edges.due("terms: the row 0 is the first", x(both).row(0, 0), 1);
        edges.due("terms: the row 1 follows the fold", x(both).row(1, 0), 6);
        edges.due("terms: places that are not seen are places", x(both).count(2), 6);
    }

    /** "The level of a place is the number of nodes on its way (the top has the level 1)." */
    private static void levels() {
        Outline x = x(Edges.chain(40));
        for (int row : new int[] {0, 1, 38, 39}) {
            edges.due("terms: level of the row " + row, x.row(row, 1), row + 1);
        }
        edges.due("terms: the greatest level", x.count(6), 40);
        edges.due("terms: no level", new Outline().count(6), 0);
        edges.due("terms: level 1 alone", x(Edges.reading("a,b")).count(6), 1);
    }

    private interface RowCall {
        int of(Outline x, int row);
    }

    private static Map<String, RowCall> callsOfARow() {
        Map<String, RowCall> calls = new LinkedHashMap<>();
        calls.put("cut", (x, row) -> x.cut(row));
        calls.put("shift", (x, row) -> x.shift(row, 1));
        calls.put("edit", (x, row) -> x.edit(row));
        calls.put("mark", (x, row) -> x.mark(row, 0));
        calls.put("fold", (x, row) -> x.fold(row, true));
        calls.put("row", (x, row) -> x.row(row, 0));
        calls.put("number", (x, row) -> x.number(row, 1));
        calls.put("charAt", (x, row) -> x.charAt(row, 0));
        calls.put("cloneTo to the root", (x, row) -> x.cloneTo(row, -1));
        calls.put("cloneTo to a row", (x, row) -> x.cloneTo(row, 0));
        calls.put("move to the root", (x, row) -> x.move(row, -1));
        calls.put("move to a row", (x, row) -> x.move(row, 0));
        return calls;
    }

    private static Map<String, RowCall> callsOfARowOrTheRoot() {
        Map<String, RowCall> calls = new LinkedHashMap<>();
        calls.put("add", (x, row) -> x.add(row));
        calls.put("cloneTo", (x, row) -> x.cloneTo(2, row));
        calls.put("move", (x, row) -> x.move(2, row));
        calls.put("nextMarked", (x, row) -> x.nextMarked(row, 0));
        calls.put("find", (x, row) -> x.find(row));
        return calls;
    }

    /** "UNKNOWN = -2: There is no such row or node." Rows, not places: five are seen of six. */
    private static void rowsThatAreNone() {
        Consumer<Outline> setup = Edges.reading("a(b(c),d),e(f)").andThen(x -> x.fold(1, true));
        int[] none = {5, 6, 119, 120, 1000, Integer.MAX_VALUE, -2, -3, -120, Integer.MIN_VALUE};
        callsOfARow().forEach((name, call) -> {
            edges.still("terms: " + name + " of the row -1", setup, x -> call.of(x, -1), UNKNOWN);
            for (int row : none) {
                edges.stillOnce("terms: " + name + " of the row " + row, setup, x -> call.of(x, row), UNKNOWN);
            }
            edges.stillOnce("terms: " + name + " of an empty outline", Edges.NOTHING, x -> call.of(x, 0), UNKNOWN);
            edges.due("terms: " + name + " knows the row 0", call.of(x(setup), 0) == UNKNOWN ? 1 : 0, 0);
            edges.due("terms: " + name + " knows the row 4", call.of(x(setup), 4) == UNKNOWN ? 1 : 0, 0);
        });
        callsOfARowOrTheRoot().forEach((name, call) -> {
            for (int row : none) {
                edges.stillOnce("terms: " + name + " to the row " + row, setup, x -> call.of(x, row), UNKNOWN);
            }
            edges.stillOnce("terms: " + name + " in an empty outline", Edges.NOTHING, x -> call.of(x, 0), UNKNOWN);
            edges.due("terms: " + name + " knows the row 4 to go to", call.of(x(setup), 4) == UNKNOWN ? 1 : 0, 0);
        });
    }

    /** "A row -1 stands for the root where this is told." */
    private static void rootRows() {
        Consumer<Outline> setup = Edges.reading("a(b(c),d)", "a").andThen(x -> x.mark(0, 0));
        edges.act("terms: add to the root", setup, x -> x.add(-1), 5, "1:1 2:2 3:3 2:4 1:5");
        edges.act("terms: add to the root of nothing", x -> x.text("n"), x -> x.add(-1), 1, "1:1");
        edges.act("terms: clone to the root", setup, x -> x.cloneTo(1, -1), 2, "1:1 2:2 3:3 2:4 1:2 2:3");
        edges.act("terms: move to the root", setup, x -> x.move(1, -1), 1, "1:1 2:4 1:2 2:3");
        edges.still("terms: the next mark from the root", setup, x -> x.nextMarked(-1, 0), 0);
        edges.still("terms: find from the root", setup, x -> x.find(-1), 0);
        edges.still("terms: the next mark of nothing", Edges.NOTHING, x -> x.nextMarked(-1, 0), NONE);
        edges.still("terms: find in nothing", x -> x.text("n"), x -> x.find(-1), NONE);
    }

    /** "Where several errors can apply, the order of the @return line is the order of the checks." UNKNOWN is its first. */
    private static void unknownFirst() {
        Consumer<Outline> bad = Edges.reading("a(b)", "");
        edges.still("terms: add, UNKNOWN before BAD_VALUE", bad, x -> x.add(2), UNKNOWN);
        edges.still("terms: add, BAD_VALUE before FULL", Edges.adding(40, "n").andThen(x -> x.text("")), x -> x.add(-1), BAD_VALUE);
        edges.still("terms: add, UNKNOWN before FULL", Edges.adding(40, "n"), x -> x.add(40), UNKNOWN);
        edges.still("terms: add, BAD_VALUE before too many places", Edges.places(120).andThen(x -> x.text("")), x -> x.add(-1), BAD_VALUE);
        edges.still("terms: add, UNKNOWN before too many places", Edges.places(120), x -> x.add(120), UNKNOWN);
        edges.still("terms: cloneTo, UNKNOWN before FULL", Edges.places(120), x -> x.cloneTo(119, 120), UNKNOWN);
        edges.still("terms: cloneTo, NOT_POSSIBLE before FULL", Edges.places(120), x -> x.cloneTo(119, 119), NOT_POSSIBLE);
        edges.still("terms: cloneTo, a child before FULL", Edges.places(120), x -> x.cloneTo(119, -1), NOT_POSSIBLE);
        edges.still("terms: move, UNKNOWN before FULL", Edges.places(120), x -> x.move(120, 0), UNKNOWN);
        edges.still("terms: move, NOT_POSSIBLE before FULL", Edges.places(120), x -> x.move(119, 119), NOT_POSSIBLE);
        edges.still("terms: shift, UNKNOWN before BAD_VALUE", bad, x -> x.shift(2, 0), UNKNOWN);
        edges.still("terms: shift, BAD_VALUE before NOT_POSSIBLE", bad, x -> x.shift(0, 40), BAD_VALUE);
        edges.still("terms: edit, UNKNOWN before BAD_VALUE", bad, x -> x.edit(2), UNKNOWN);
        edges.still("terms: mark, UNKNOWN before BAD_VALUE", bad, x -> x.mark(2, 5), UNKNOWN);
        edges.still("terms: row, UNKNOWN before BAD_VALUE", bad, x -> x.row(2, 9), UNKNOWN);
        edges.still("terms: row of the root, UNKNOWN before BAD_VALUE", bad, x -> x.row(-1, -1), UNKNOWN);
        edges.still("terms: number, UNKNOWN before BAD_VALUE", bad, x -> x.number(2, 0), UNKNOWN);
        edges.still("terms: charAt, UNKNOWN before BAD_VALUE", bad, x -> x.charAt(2, -1), UNKNOWN);
        edges.still("terms: node, UNKNOWN before BAD_VALUE", bad, x -> x.node(3, 8), UNKNOWN);
        edges.still("terms: node of the root, UNKNOWN before BAD_VALUE", bad, x -> x.node(0, 8), UNKNOWN);
        edges.still("terms: nextMarked, UNKNOWN before BAD_VALUE", bad, x -> x.nextMarked(2, 5), UNKNOWN);
        edges.still("terms: readOutline, a fault before FULL", Edges.reading("a", Edges.FAN + ",g(d,e,f),h,"),
            Outline::readOutline, -158);
    }

    /** "NONE is no error; it is returned only if no error applies." */
    private static void noneIsLast() {
        Consumer<Outline> setup = Edges.reading("a(b)", "a");
        edges.still("terms: edit, UNKNOWN before NONE", setup, x -> x.edit(2), UNKNOWN);
        edges.still("terms: edit, NONE", setup, x -> x.edit(0), NONE);
        edges.still("terms: fold, UNKNOWN before NONE", setup, x -> x.fold(2, false), UNKNOWN);
        edges.still("terms: fold, NOT_POSSIBLE before NONE", setup, x -> x.fold(1, false), NOT_POSSIBLE);
        edges.still("terms: fold, NONE", setup, x -> x.fold(0, false), NONE);
        edges.still("terms: foldLevel, BAD_VALUE before NONE", Edges.NOTHING, x -> x.foldLevel(41), BAD_VALUE);
        edges.still("terms: foldLevel, NONE", Edges.NOTHING, x -> x.foldLevel(40), NONE);
        edges.still("terms: show, UNKNOWN before NONE", setup, x -> x.show(3), UNKNOWN);
        edges.still("terms: show, NONE", setup, x -> x.show(2), NONE);
        edges.still("terms: number, UNKNOWN before NONE", setup, x -> x.number(2, 9), UNKNOWN);
        edges.still("terms: number, NONE", setup, x -> x.number(1, 3), NONE);
        edges.still("terms: charAt, UNKNOWN before NONE", setup, x -> x.charAt(2, 9), UNKNOWN);
        edges.still("terms: charAt, NONE", setup, x -> x.charAt(1, 1), NONE);
        edges.still("terms: nextMarked, UNKNOWN before NONE", setup, x -> x.nextMarked(2, 0), UNKNOWN);
        edges.still("terms: nextMarked, BAD_VALUE before NONE", setup, x -> x.nextMarked(1, 5), BAD_VALUE);
        edges.still("terms: nextMarked, NONE", setup, x -> x.nextMarked(1, 0), NONE);
        edges.still("terms: find, UNKNOWN before NONE", setup, x -> x.find(2), UNKNOWN);
        edges.still("terms: find, NONE", setup, x -> x.find(0), NONE);
        edges.still("terms: node, UNKNOWN before NONE", setup.andThen(x -> x.fold(0, true)), x -> x.node(3, 5), UNKNOWN);
        edges.still("terms: node, NONE", setup.andThen(x -> x.fold(0, true)), x -> x.node(2, 5), NONE);
    }
}
