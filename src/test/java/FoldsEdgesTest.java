import java.util.function.Consumer;

/** Each sentence of the promises 9 to 13 that names a boundary. */
public final class FoldsEdgesTest {
    private static final int UNKNOWN = Edges.UNKNOWN;
    private static final int BAD_VALUE = Edges.BAD_VALUE;
    private static final int FULL = Edges.FULL;
    private static final int NOT_POSSIBLE = Edges.NOT_POSSIBLE;
    private static final int NONE = Edges.NONE;
    private static final Edges edges = new Edges("FoldsEdgesTest");

    public static void main(String[] args) {
        foldAndUnfold();
        foldNotPossible();
        foldLevelRange();
        foldLevelFolds();
        foldLevelNone();
        showFirstPlace();
        showUnknown();
        showNone();
        mostTyped();
        anyCharacter();
        clearedText();
        edges.end();
    }

    private static Outline x(Consumer<Outline> setup) {
        return Edges.made(setup).get();
    }

    /** Promise 9: "Folds or unfolds the place of a row. ... Returns the number of rows then; ... NONE if it is so already" */
    private static void foldAndUnfold() {
        Consumer<Outline> setup = Edges.reading("a(b(c)),d(b)");
        edges.act("9: fold the first", setup, x -> x.fold(0, true), 4, "1:1+ 1:4 2:2 3:3");
        edges.act("9: fold another", setup, x -> x.fold(4, true), 5, "1:1 2:2 3:3 1:4 2:2+");
        edges.still("9: it is unfolded", setup, x -> x.fold(0, false), NONE);
        edges.still("9: so is another", setup, x -> x.fold(4, false), NONE);
        Consumer<Outline> folded = setup.andThen(x -> x.fold(1, true));
        edges.still("9: it is folded", folded, x -> x.fold(1, true), NONE);
        edges.act("9: unfold", folded, x -> x.fold(1, false), 6, "1:1 2:2 3:3 1:4 2:2 3:3");
        edges.still("9: its other place is not folded", folded, x -> x.fold(3, false), NONE);
        edges.act("9: but can be", folded, x -> x.fold(3, true), 4, "1:1 2:2+ 1:4 2:2+");
        Consumer<Outline> around = folded.andThen(x -> x.fold(0, true));
        edges.act("9: unfold around a folded one", around, x -> x.fold(0, false), 5, "1:1 2:2+ 1:4 2:2 3:3");
        edges.still("9: behind the last row", around, x -> x.fold(4, true), UNKNOWN);
        edges.still("9: the root", setup, x -> x.fold(-1, true), UNKNOWN);
        edges.still("9: to unfold the root", setup, x -> x.fold(-1, false), UNKNOWN);
        edges.act("9: all but the first row", Edges.family(),
            x -> x.fold(0, true), 1, "1:1+");
    }

    /** Promise 9: "NOT_POSSIBLE if its node has no children" */
    private static void foldNotPossible() {
        Consumer<Outline> setup = Edges.reading("a(b),c");
        edges.still("9: no children", setup, x -> x.fold(2, true), NOT_POSSIBLE);
        edges.still("9: no children, before NONE", setup, x -> x.fold(2, false), NOT_POSSIBLE);
        edges.still("9: no children below", setup, x -> x.fold(1, true), NOT_POSSIBLE);
        edges.act("9: one child", setup, x -> x.fold(0, true), 2, "1:1+ 1:3");
        Consumer<Outline> childless = Edges.reading("a(b),c(a)").andThen(x -> x.fold(0, true)).andThen(x -> x.cut(3));
        edges.still("9: folded, but no children, before NONE", childless, x -> x.fold(0, true), NOT_POSSIBLE);
        edges.still("9: folded, but no children", childless, x -> x.fold(0, false), NOT_POSSIBLE);
        edges.still("9: not folded, no children", childless, x -> x.fold(2, true), NOT_POSSIBLE);
        Consumer<Outline> again = childless.andThen(x -> x.text("n").add(0));
        edges.still("9: folded with a child again", again, x -> x.fold(0, true), NONE);
        edges.act("9: unfolded with a child again", again, x -> x.fold(0, false), 5, "1:1 2:4 1:3 2:1 3:4");
    }

    /** Promise 10: "level: 1 to 40: the levels below it are 1 to level - 1" */
    private static void foldLevelRange() {
        Consumer<Outline> chain = Edges.chain(40);
        for (int level : new int[] {0, -1, 41, 42, -40, Integer.MAX_VALUE, Integer.MIN_VALUE}) {
            edges.still("10: level " + level, chain, x -> x.foldLevel(level), BAD_VALUE);
            edges.still("10: level " + level + " of nothing", Edges.NOTHING, x -> x.foldLevel(level), BAD_VALUE);
        }
        for (int level : new int[] {1, 2, 20, 38, 39}) {
            edges.act("10: level " + level, chain, x -> x.foldLevel(level), level, null);
            edges.due("10: one is folded", x(chain.andThen(x -> x.foldLevel(level))).count(4), 1);
            edges.due("10: that of the level " + level, x(chain.andThen(x -> x.foldLevel(level))).row(level - 1, 4), 1);
        }
        edges.still("10: level 40 has no children", chain, x -> x.foldLevel(40), NONE);
        Consumer<Outline> folded = chain.andThen(x -> x.foldLevel(39));
        edges.act("10: level 40 unfolds level 39", folded, x -> x.foldLevel(40), 40, null);
        edges.act("10: level 1 leaves level 39", folded, x -> x.foldLevel(1), 1, "1:1+");
        edges.due("10: both are folded", x(folded.andThen(x -> x.foldLevel(1))).count(4), 2);
        edges.act("10: level 38 leaves level 39", folded, x -> x.foldLevel(38), 38, null);
        edges.due("10: both are folded, too", x(folded.andThen(x -> x.foldLevel(38))).count(4), 2);
    }

    /** Promise 10: "Folds all places of a level whose nodes have children, and unfolds all places of lower levels." */
    private static void foldLevelFolds() {
        Consumer<Outline> setup = Edges.reading("a(b(c),d),e(b),f");
        edges.act("10: level 1", setup, x -> x.foldLevel(1), 3, "1:1+ 1:5+ 1:6");
        edges.act("10: level 2", setup, x -> x.foldLevel(2), 6, "1:1 2:2+ 2:4 1:5 2:2+ 1:6");
        edges.due("10: leaves are not folded", x(setup.andThen(x -> x.foldLevel(2))).count(4), 2);
        Consumer<Outline> both = setup.andThen(x -> x.foldLevel(2)).andThen(x -> x.foldLevel(1));
        edges.act("10: level 2 unfolds level 1", both, x -> x.foldLevel(2), 6, "1:1 2:2+ 2:4 1:5 2:2+ 1:6");
        edges.act("10: level 3 unfolds both", both, x -> x.foldLevel(3), 8, "1:1 2:2 3:3 2:4 1:5 2:2 3:3 1:6");
        edges.act("10: level 4 unfolds both", both, x -> x.foldLevel(4), 8, "1:1 2:2 3:3 2:4 1:5 2:2 3:3 1:6");
        edges.act("10: one of a level is folded", setup.andThen(x -> x.fold(0, true)), x -> x.foldLevel(1), 3, "1:1+ 1:5+ 1:6");
        edges.act("10: places that are not seen", setup.andThen(x -> x.fold(4, true)), x -> x.foldLevel(2), 6,
            "1:1 2:2+ 2:4 1:5 2:2+ 1:6");
        Consumer<Outline> unfold = setup.andThen(x -> x.fold(4, true)).andThen(x -> x.fold(1, true));
        edges.act("10: only to unfold", unfold, x -> x.foldLevel(3), 8, "1:1 2:2 3:3 2:4 1:5 2:2 3:3 1:6");
        Outline unfolded = x(unfold.andThen(x -> x.foldLevel(3)));
        edges.due("10: none is folded then", unfolded.count(4) + unfolded.row(1, 4) + unfolded.row(5, 4), 0);
        edges.act("10: of 120 places", Edges.places(120), x -> x.foldLevel(1), 11, "1:1 1:2+ 1:3+ 1:4+ 1:5+ 1:6+ 1:7+ 1:8 1:9 1:10 1:11");
        edges.still("10: none of 120 places", Edges.places(120), x -> x.foldLevel(7), NONE);
        edges.still("10: folds of places that were cut", Edges.reading("a,b(c)").andThen(x -> x.fold(1, true)).andThen(x -> x.cut(1)),
            x -> x.foldLevel(2), NONE);
        // The place of a node that has no children any more is of a level, but not folded by it; of a lower one, unfolded.
        Consumer<Outline> childless = Edges.reading("a(b),c(a),d(e)").andThen(x -> x.fold(0, true)).andThen(x -> x.cut(3));
        edges.act("10: its own level keeps it folded", childless, x -> x.foldLevel(1), 3, "1:1+ 1:3+ 1:4+");
        edges.act("10: a greater level unfolds it", childless, x -> x.foldLevel(2), 5, "1:1 1:3 2:1 1:4 2:5");
    }

    /** Promise 10: "NONE if nothing is changed by it" */
    private static void foldLevelNone() {
        Consumer<Outline> setup = Edges.reading("a(b(c)),d");
        edges.still("10: nothing there", Edges.NOTHING, x -> x.foldLevel(1), NONE);
        edges.still("10: a level of leaves", setup, x -> x.foldLevel(3), NONE);
        edges.still("10: a level without places", setup, x -> x.foldLevel(4), NONE);
        edges.still("10: folded already", setup.andThen(x -> x.foldLevel(2)), x -> x.foldLevel(2), NONE);
        edges.still("10: folded by fold()", setup.andThen(x -> x.fold(0, true)), x -> x.foldLevel(1), NONE);
        edges.still("10: folded, a greater one, too", setup.andThen(x -> x.foldLevel(2)).andThen(x -> x.foldLevel(1)),
            x -> x.foldLevel(1), NONE);
        edges.act("10: folded, but a lower one, too", setup.andThen(x -> x.foldLevel(2)).andThen(x -> x.foldLevel(1)),
            x -> x.foldLevel(2), 3, "1:1 2:2+ 1:4");
    }

    /** Promise 11: "Unfolds all places that the first place of a node, seen or not, in the order of the outline, is within." */
    private static void showFirstPlace() {
        Consumer<Outline> setup = Edges.reading("a(b(c(d),e(f))),g(c)").andThen(x -> {
            x.fold(7, true);
            x.fold(4, true);
            x.fold(2, true);
            x.fold(1, true);
            x.fold(0, true);
        });
        edges.act("11: all around, not itself", setup, x -> x.show(3), 2, "1:1 2:2 3:3+ 3:5+ 1:7 2:3+");
        edges.act("11: itself neither, one up", setup, x -> x.show(2), 1, "1:1 2:2+ 1:7 2:3+");
        edges.act("11: the deepest", setup, x -> x.show(4), 3, "1:1 2:2 3:3 4:4 3:5+ 1:7 2:3+");
        edges.act("11: behind a sibling that stays folded", setup, x -> x.show(6), 4, "1:1 2:2 3:3+ 3:5 4:6 1:7 2:3+");
        Outline shown = x(setup.andThen(x -> x.show(3)));
        edges.due("11: it is unfolded around", shown.row(0, 4) + shown.row(1, 4), 0);
        edges.due("11: three are folded", shown.count(4), 3);
        edges.still("11: the top", setup, x -> x.show(7), NONE);
        edges.still("11: the top that is folded", setup, x -> x.show(1), NONE);
        Consumer<Outline> inner = setup.andThen(x -> x.fold(0, false));
        edges.act("11: only one around is folded", inner, x -> x.show(5), 3, "1:1 2:2 3:3+ 3:5+ 1:7 2:3+");
        // The first place of c is not seen, the second is: the first one is shown all the same.
        Consumer<Outline> second = Edges.reading("a(c),b(c)").andThen(x -> x.fold(0, true));
        edges.due("11: the second is seen", x(second).node(2, 5), 2);
        edges.act("11: the first is shown", second, x -> x.show(2), 1, "1:1 2:2 1:3 2:2");
        Consumer<Outline> first = Edges.reading("a(c),b(c)").andThen(x -> x.fold(2, true));
        edges.still("11: the first is seen, the second is not", first, x -> x.show(2), NONE);
    }

    /** Promise 11: "UNKNOWN (the root, and a node that vanished or was never made, are none)" */
    private static void showUnknown() {
        Consumer<Outline> setup = Edges.reading("a(b),c").andThen(x -> x.cut(0));
        for (int node : new int[] {0, -1, 1, 2, 4, 5, 40, 41, 64, 67, Integer.MAX_VALUE, Integer.MIN_VALUE}) {
            edges.still("11: node " + node, setup, x -> x.show(node), UNKNOWN);
        }
        edges.still("11: a node that is there", setup, x -> x.show(3), NONE);
        edges.still("11: nothing is there", Edges.NOTHING, x -> x.show(1), UNKNOWN);
        Consumer<Outline> forty = Edges.family().andThen(x -> x.fold(0, true));
        edges.act("11: node 40", forty, x -> x.show(40), 39, null);
        edges.still("11: node 41", forty, x -> x.show(41), UNKNOWN);
    }

    /** Promise 11: "NONE if nothing has to be unfolded" */
    private static void showNone() {
        Consumer<Outline> setup = Edges.reading("a(b(c)),d(e)");
        edges.still("11: it is seen", setup, x -> x.show(3), NONE);
        edges.still("11: others are folded", setup.andThen(x -> x.fold(3, true)), x -> x.show(3), NONE);
        edges.still("11: it is folded itself", setup.andThen(x -> x.fold(1, true)), x -> x.show(2), NONE);
        edges.still("11: shown already", setup.andThen(x -> x.fold(0, true)).andThen(x -> x.show(3)), x -> x.show(3), NONE);
    }

    /** "There is a text of at most 60 characters, empty at first."; promise 12: "FULL if it has 60 characters" */
    private static void mostTyped() {
        edges.due("12: empty at first", new Outline().count(8), 0);
        edges.due("12: the first", new Outline().type('a'), 1);
        Outline x = new Outline();
        for (int length = 1; length <= 60; length++) {
            edges.due("12: length " + length, x.type((char) ('a' + length % 26)), length);
            edges.due("12: counted", x.count(8), length);
        }
        edges.due("12: the 61st", x.type('a'), FULL);
        edges.due("12: still 60", x.count(8), 60);
        edges.due("12: no act", x.count(7), 0);
        Consumer<Outline> full = Edges.reading("a(b)", Edges.FAN + ",g(d,e,f),h(d)");
        edges.due("12: 60 are typed", x(full).count(8), 60);
        edges.still("12: FULL", full, y -> y.type(','), FULL);
        edges.still("12: FULL again", full.andThen(y -> y.type('a')), y -> y.type(')'), FULL);
        edges.due("12: room again", x(full.andThen(Outline::clearText)).type('a'), 1);
        edges.due("12: undo is no room", x(full.andThen(Outline::undo)).type('a'), FULL);
    }

    /** Promise 12: "character: any character" */
    private static void anyCharacter() {
        char[] any = {0, 1, 31, ' ', '(', ')', ',', 'A', '~', 127, 128, 160, 233, 255};
        for (char one : any) {
            Outline x = new Outline();
            x.type(one);
            edges.due("12: a node of " + (int) one, x.add(-1), 1);
            edges.due("12: tells " + (int) one, x.charAt(0, 0), one);
            edges.due("12: and no more", x.charAt(0, 1), NONE);
            edges.due("12: is found", x.find(-1), 0);
        }
        for (char one : new char[] {256, 1000, 32767, 32768, 65535}) {
            edges.due("12: types " + (int) one, new Outline().type(one), 1);
        }
        Outline order = new Outline();
        order.text("ab").type('c');
        order.add(-1);
        edges.dueText("12: behind the text", order.textOf(0), "abc");
    }

    /** Promise 13: "Empties the text. Returns the length that it had." */
    private static void clearedText() {
        Consumer<Outline> setup = Edges.reading("a(b)", "");
        edges.due("13: empty", x(setup).clearText(), 0);
        for (int length : new int[] {1, 8, 9, 59, 60}) {
            Consumer<Outline> typed = setup.andThen(x -> x.text("n".repeat(length)));
            edges.due("13: had " + length, x(typed).clearText(), length);
            Outline x = x(typed.andThen(Outline::clearText));
            edges.due("13: has none", x.count(8), 0);
            edges.due("13: had none", x.clearText(), 0);
            edges.due("13: no act", x.count(7), 1);
            edges.dueText("13: no rows change", x.rows(), "1:1 2:2");
            edges.due("13: it is no text", x.add(-1), BAD_VALUE);
            edges.due("13: nor an outline", x.readOutline(), -100);
            edges.due("13: typed from the begin", x.type('q'), 1);
            edges.due("13: is a text", x.add(-1), 3);
            edges.dueText("13: of one", x.textOf(2), "q");
        }
    }
}
