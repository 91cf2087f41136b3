/** Promises 1 to 8: a new object, and the calls that change nodes. */
public final class NodesTest {
    private static final int UNKNOWN = -2;
    private static final int BAD_VALUE = -3;
    private static final int FULL = -4;
    private static final int NOT_POSSIBLE = -5;
    private static final int NONE = -6;
    private static final Check check = new Check("NodesTest");

    public static void main(String[] args) {
        promise1();
        promise2();
        promise2Full();
        promise3();
        promise3Full();
        promise4();
        promise4Full();
        promise5();
        promise6();
        promise7();
        promise8();
        vanishedNodesAreNoParents();
        theLastNode();
        manyParents();
        check.end();
    }

    private static void promise1() {
        CloneOutline x = new CloneOutline();
        for (int what = 0; what <= 8; what++) {
            check.due("1: count(" + what + ")", x.count(what), 0);
        }
        check.due("1: undo", x.undo(), NONE);
        check.due("1: restore", x.restore(), NONE);
        check.due("1: row(0, 0)", x.row(0, 0), UNKNOWN);
        check.due("1: row(-1, 0)", x.row(-1, 0), UNKNOWN);
        check.due("1: node(0, 0)", x.node(0, 0), UNKNOWN);
        check.due("1: node(1, 0)", x.node(1, 0), UNKNOWN);
        CloneOutline other = new CloneOutline();
        Check.add(x, -1, "a");
        check.due("1: objects share nothing", other.count(0) + other.count(8), 0);
    }

    private static void promise2() {
        CloneOutline x = new CloneOutline();
        check.due("2: empty text", x.add(-1), BAD_VALUE);
        check.due("2: unknown before bad", x.add(0), UNKNOWN);
        check.due("2: eight letters", Check.add(x, -1, "abcdefgh"), 1);
        check.due("2: text stays", x.count(8), 8);
        check.due("2: nine letters", Check.add(x, -1, "abcdefghi"), BAD_VALUE);
        check.due("2: nothing recorded", x.count(7), 1);
        check.due("2: below", Check.add(x, 0, "b"), 2);
        check.due("2: last", Check.add(x, 0, "c"), 3);
        check.due("2: top", Check.add(x, -1, "d"), 4);
        check.dueText("2: rows", Check.rows(x), "1:1 2:2 2:3 1:4");
        check.dueText("2: text of node 1", Check.textOf(x, 0), "abcdefgh");
        check.dueText("2: text of node 3", Check.textOf(x, 2), "c");
        check.due("2: unknown row", x.add(4), UNKNOWN);
        check.due("2: row -2", x.add(-2), UNKNOWN);
        check.due("2: least", x.add(Integer.MIN_VALUE), UNKNOWN);
        check.due("2: greatest", x.add(Integer.MAX_VALUE), UNKNOWN);
        check.due("2: act", x.count(7), 4);
        x = Check.outline("a,b(a)");
        x.fold(1, true);
        check.due("2: below a clone", Check.add(x, 0, "c"), 3);
        check.due("2: in all places", x.node(3, 1), 2);
        check.dueText("2: b stays folded", Check.rows(x), "1:1 2:3 1:2+");
        x.cut(1);
        check.due("2: numbers are not given again", x.add(-1), 4);
    }

    private static void promise2Full() {
        CloneOutline x = new CloneOutline();
        for (int i = 0; i < 40; i++) {
            check.due("2: chain " + i, Check.add(x, i - 1, "a"), i + 1);
        }
        check.due("2: deepest level", x.count(6), 40);
        check.due("2: number at the deepest level", x.number(39, 40), 1);
        check.due("2: the 41st node", x.add(-1), FULL);
        x.cut(0);
        check.due("2: nothing is left", x.count(0), 0);
        check.due("2: vanished nodes count", x.add(-1), FULL);
        Check.text(x, "");
        check.due("2: bad before full", x.add(-1), BAD_VALUE);
        check.due("2: unknown before bad", x.add(0), UNKNOWN);
        check.due("2: undo brings numbers", x.undo(), 4);
        check.due("2: undo the 40th", x.undo(), 3);
        check.due("2: the 40th again", Check.add(x, 38, "z"), 40);
        // 119 places, of which the node "b" has 11: no child of it has room, one at the top has.
        x = Check.outline("a(b),c(a),d(a),e(a),f(a),g(a),h(a),i(a),j(a),k(a),l(a)");
        int places = x.count(2);
        check.due("2: places of b", x.node(2, 1), 11);
        while (places + 11 <= 120) {
            Check.add(x, 1, "n");
            places += 11;
            check.due("2: places", x.count(2), places);
        }
        check.due("2: 121 places or more", x.add(1), FULL);
        check.due("2: places stay", x.count(2), places);
        while (places < 120) {
            Check.add(x, -1, "n");
            places++;
            check.due("2: places", x.count(2), places);
        }
        int made = x.count(1);
        check.due("2: made less than 40", made < 40 ? 1 : 0, 1);
        check.due("2: the 121st place", x.add(-1), FULL);
        check.due("2: nothing made", x.count(1), made);
    }

    private static void promise3() {
        CloneOutline x = Check.outline("a(b(c)),d");
        check.due("3: unknown", x.cloneTo(4, -1), UNKNOWN);
        check.due("3: the root is no row to clone", x.cloneTo(-1, 0), UNKNOWN);
        check.due("3: unknown target", x.cloneTo(0, 4), UNKNOWN);
        check.due("3: target -2", x.cloneTo(0, -2), UNKNOWN);
        check.due("3: within itself", x.cloneTo(0, 0), NOT_POSSIBLE);
        check.due("3: within its child", x.cloneTo(0, 1), NOT_POSSIBLE);
        check.due("3: within its grandchild", x.cloneTo(0, 2), NOT_POSSIBLE);
        check.due("3: child already", x.cloneTo(1, 0), NOT_POSSIBLE);
        check.due("3: child of the root already", x.cloneTo(0, -1), NOT_POSSIBLE);
        check.due("3: nothing recorded", x.count(7), 1);
        x.fold(1, true);
        check.due("3: to the end of d", x.cloneTo(1, 2), 2);
        check.dueText("3: a new place is not folded", Check.rows(x), "1:1 2:2+ 1:4 2:2 3:3");
        check.due("3: parents", x.node(2, 0), 2);
        check.due("3: to the root", x.cloneTo(1, -1), 3);
        check.dueText("3: last child", Check.rows(x), "1:1 2:2+ 1:4 2:2 3:3 1:2 2:3");
        check.due("3: act", x.count(7), 4);
        x.undo();
        check.dueText("3: undone", Check.rows(x), "1:1 2:2+ 1:4 2:2 3:3");
        // d is within a only through a place that is not seen.
        x = Check.outline("b(d),a(b)");
        x.fold(2, true);
        check.due("3: within itself, unseen", x.cloneTo(2, 1), NOT_POSSIBLE);
        check.due("3: below both", x.cloneTo(1, 2), 3);
    }

    private static void promise3Full() {
        // 94 places of seven nodes, and a top for each other one.
        CloneOutline x = Check.outline("a,b(a),c(a,b),d(a,b,c),e(a,b,c,d),f(a,b,c,d,e),g(b,c,d,e)");
        check.due("3: places of seven nodes", x.count(2), 94);
        for (int places = 95; places <= 120; places++) {
            Check.add(x, -1, "n");
            check.due("3: places", x.count(2), places);
        }
        check.due("3: no room for a clone", x.cloneTo(0, 119), FULL);
        check.due("3: nothing changed", x.count(2), 120);
        check.due("3: not possible before full", x.cloneTo(0, 1), NOT_POSSIBLE);
        check.due("3: unknown before full", x.cloneTo(120, 1), UNKNOWN);
        x.cut(119);
        check.due("3: 119 places", x.count(2), 119);
        check.due("3: no room for two places", x.cloneTo(1, 118), FULL);
        check.due("3: the 120th place", x.cloneTo(118, 117), 2);
        check.due("3: 120 places", x.count(2), 120);
        x.cut(119);
        check.due("3: in all 32 places of a", x.cloneTo(118, 0), FULL);
    }

    private static void promise4() {
        CloneOutline x = Check.outline("a(b(c)),d");
        check.due("4: unknown", x.move(4, -1), UNKNOWN);
        check.due("4: the root", x.move(-1, 0), UNKNOWN);
        check.due("4: unknown target", x.move(0, 4), UNKNOWN);
        check.due("4: target -2", x.move(0, -2), UNKNOWN);
        check.due("4: within itself", x.move(0, 0), NOT_POSSIBLE);
        check.due("4: within its grandchild", x.move(0, 2), NOT_POSSIBLE);
        check.due("4: the parent that it has", x.move(1, 0), NOT_POSSIBLE);
        check.due("4: the root that it has", x.move(3, -1), NOT_POSSIBLE);
        check.due("4: nothing recorded", x.count(7), 1);
        x.fold(1, true);
        check.due("4: to d", x.move(1, 2), 1);
        check.dueText("4: new places are not folded", Check.rows(x), "1:1 1:4 2:2 3:3");
        check.due("4: to the root", x.move(3, -1), 1);
        check.dueText("4: last of the root", Check.rows(x), "1:1 1:4 2:2 1:3");
        check.due("4: act", x.count(7), 4);
        x = Check.outline("a(b),c(a),d,e(d)");
        check.due("4: in all places of both", x.move(1, 5), 2);
        check.dueText("4: rows", Check.rows(x), "1:1 1:3 2:1 1:4 2:2 1:5 2:4 3:2");
        x = Check.outline("a(b),c(b)");
        check.due("4: a child there already", x.move(1, 2), NOT_POSSIBLE);
        check.due("4: other parents stay", x.move(1, -1), 2);
        check.dueText("4: rows of a clone", Check.rows(x), "1:1 1:3 2:2 1:2");
        x = Check.outline("a(b),c");
        x.fold(0, true);
        check.due("4: move c into the folded a", x.move(1, 0), 1);
        check.dueText("4: unseen then", Check.rows(x), "1:1+");
        check.due("4: places", x.count(2), 3);
    }

    private static void promise4Full() {
        CloneOutline x = Check.outline("a,b(a),c(a),d(a),e(a),f(a),g(a),h(a),i(a),j(a),k(a)");
        for (int i = 0; i < 9; i++) {
            Check.add(x, -1, "n");
        }
        check.due("4: places", x.count(2), 30);
        int last = 29;
        for (int i = 0; i < 8; i++) {
            check.due("4: move into a", x.move(last, 0), 11);
            last = x.count(3) - 1;
        }
        check.due("4: 110 places", x.count(2), 110);
        check.due("4: the last into a", x.move(last, 0), 11);
        check.due("4: 120 places", x.count(2), 120);
        last = x.count(3) - 1;
        x.undo();
        Check.add(x, -1, "m");
        check.due("4: 111 places", x.count(2), 111);
        check.due("4: 121 places", x.move(110, 0), FULL);
        check.due("4: nothing changed", x.count(2), 111);
        check.due("4: not possible before full", x.move(110, 110), NOT_POSSIBLE);
    }

    private static void promise5() {
        CloneOutline x = Check.outline("a(b(c),d),e(c)");
        check.due("5: unknown", x.cut(6), UNKNOWN);
        check.due("5: the root", x.cut(-1), UNKNOWN);
        check.due("5: three vanish, c stays", x.cut(0), 3);
        check.dueText("5: rows", Check.rows(x), "1:5 2:3");
        check.due("5: nodes", x.count(0), 2);
        check.due("5: made", x.count(1), 5);
        check.due("5: places", x.count(2), 2);
        check.due("5: a", x.node(1, 0), UNKNOWN);
        check.due("5: b", x.node(2, 0), UNKNOWN);
        check.due("5: parents of c", x.node(3, 0), 1);
        check.due("5: act", x.count(7), 2);
        check.due("5: undo", x.undo(), 1);
        check.dueText("5: undone", Check.rows(x), "1:1 2:2 3:3 2:4 1:5 2:3");
        check.due("5: another place stays", x.cut(2), 0);
        check.dueText("5: rows", Check.rows(x), "1:1 2:2 2:4 1:5 2:3");
        x = Check.outline("a(b),c(a)");
        check.due("5: in all places of the parent", x.cut(1), 1);
        check.dueText("5: rows", Check.rows(x), "1:1 1:3 2:1");
        // A place keeps its fold when its last child is cut in another place of its node.
        x = Check.outline("a(b),c(a)");
        x.fold(0, true);
        check.due("5: b in c", x.cut(3), 1);
        check.dueText("5: a is still folded there", Check.rows(x), "1:1+ 1:3 2:1");
        x = Check.outline("a(b),c(b)");
        x.fold(0, true);
        check.due("5: a vanishes with its fold", x.cut(0), 1);
        check.due("5: no folds", x.count(4), 0);
        // The same way that comes again is a new place.
        x = Check.outline("a(b(c)),d(b)");
        x.fold(1, true);
        x.cut(1);
        check.dueText("5: rows", Check.rows(x), "1:1 1:4 2:2 3:3");
        x.cloneTo(2, 0);
        check.dueText("5: not folded again", Check.rows(x), "1:1 2:2 3:3 1:4 2:2 3:3");
    }

    private static void promise6() {
        CloneOutline x = Check.outline("a(e,f,g,h),b(a),c,d");
        x.fold(0, true);
        check.due("6: unknown", x.shift(9, 1), UNKNOWN);
        check.due("6: the root", x.shift(-1, 1), UNKNOWN);
        check.due("6: unknown before bad", x.shift(9, 0), UNKNOWN);
        check.due("6: by 0", x.shift(0, 0), BAD_VALUE);
        check.due("6: by 40", x.shift(0, 40), BAD_VALUE);
        check.due("6: by -40", x.shift(0, -40), BAD_VALUE);
        check.due("6: by the greatest", x.shift(0, Integer.MAX_VALUE), BAD_VALUE);
        check.due("6: by the least", x.shift(0, Integer.MIN_VALUE), BAD_VALUE);
        check.due("6: by 39", x.shift(0, 39), NOT_POSSIBLE);
        check.due("6: by -39", x.shift(0, -39), NOT_POSSIBLE);
        check.due("6: behind the last", x.shift(0, 4), NOT_POSSIBLE);
        check.due("6: ahead of the first", x.shift(0, -1), NOT_POSSIBLE);
        check.due("6: nothing recorded", x.count(7), 2);
        check.due("6: f later by 2", x.shift(4, 2), 3);
        check.dueText("6: rows", Check.rows(x), "1:1+ 1:6 2:1 3:2 3:4 3:5 3:3 1:7 1:8");
        check.due("6: f earlier by 3", x.shift(6, -3), 0);
        check.due("6: a to the end", x.shift(0, 3), 3);
        check.dueText("6: folds go along", Check.rows(x), "1:6 2:1 3:3 3:2 3:4 3:5 1:7 1:8 1:1+");
        check.due("6: act", x.count(7), 5);
        check.due("6: position", x.row(8, 2), 3);
        x = Check.outline("a,b(x,y),c,d,e");
        check.due("6: b by 1", x.shift(1, 1), 2);
        check.dueText("6: one step later", Check.rows(x), "1:1 1:5 1:2 2:3 2:4 1:6 1:7");
        check.due("6: e by -2", x.shift(6, -2), 2);
        check.dueText("6: two steps earlier", Check.rows(x), "1:1 1:5 1:7 1:2 2:3 2:4 1:6");
        check.due("6: y by -1", x.shift(5, -1), 0);
        check.dueText("6: within b", Check.rows(x), "1:1 1:5 1:7 1:2 2:4 2:3 1:6");
        x = new CloneOutline();
        for (int i = 0; i < 40; i++) {
            Check.add(x, -1, "a");
        }
        check.due("6: from the first to the last", x.shift(0, 39), 39);
        check.due("6: it is the last", x.row(39, 0), 1);
        check.due("6: and back", x.shift(39, -39), 0);
        check.due("6: it is the first", x.row(0, 0), 1);
    }

    private static void promise7() {
        CloneOutline x = Check.outline("a(b),c(b)");
        Check.text(x, "");
        check.due("7: unknown before bad", x.edit(4), UNKNOWN);
        check.due("7: the root", x.edit(-1), UNKNOWN);
        check.due("7: empty", x.edit(0), BAD_VALUE);
        Check.text(x, "123456789");
        check.due("7: nine", x.edit(0), BAD_VALUE);
        Check.text(x, "b");
        check.due("7: its text already", x.edit(1), NONE);
        check.due("7: nothing recorded", x.count(7), 1);
        Check.text(x, "12345678");
        check.due("7: eight", x.edit(1), 2);
        check.dueText("7: in all places", Check.textOf(x, 3), "12345678");
        check.due("7: the text stays", x.count(8), 8);
        check.due("7: again", x.edit(3), NONE);
        Check.text(x, "1234567");
        check.due("7: shorter", x.edit(3), 2);
        check.dueText("7: seven", Check.textOf(x, 1), "1234567");
        Check.text(x, "1234568");
        check.due("7: another last sign", x.edit(3), 2);
        check.due("7: one place", x.edit(0), 1);
        check.due("7: act", x.count(7), 5);
        x.undo();
        check.dueText("7: undone", Check.textOf(x, 0), "a");
        check.dueText("7: later typing changes no node", Check.textOf(x, 1), "1234568");
        Check.text(x, "zzzzzzzz");
        check.dueText("7: the node has its own text", Check.textOf(x, 1), "1234568");
    }

    private static void promise8() {
        CloneOutline x = Check.outline("a(b),c(b)");
        check.due("8: unknown before bad", x.mark(4, 5), UNKNOWN);
        check.due("8: the root", x.mark(-1, 0), UNKNOWN);
        check.due("8: -1", x.mark(0, -1), BAD_VALUE);
        check.due("8: 5", x.mark(0, 5), BAD_VALUE);
        check.due("8: 32", x.mark(0, 32), BAD_VALUE);
        check.due("8: nothing recorded", x.count(7), 1);
        check.due("8: 0", x.mark(1, 0), 1);
        check.due("8: 4", x.mark(3, 4), 17);
        check.due("8: 2", x.mark(1, 2), 21);
        check.due("8: 0 away", x.mark(1, 0), 20);
        check.due("8: act", x.count(7), 5);
        check.due("8: in all places", x.row(3, 5), 20);
        check.due("8: others not", x.row(0, 5) + x.row(2, 5), 0);
        check.due("8: undo", x.undo(), 4);
        check.due("8: undone", x.row(1, 5), 21);
    }

    private static void vanishedNodesAreNoParents() {
        CloneOutline x = Check.outline("a(b(c,d)),e(c)");
        check.due("terms: c has two parents", x.node(3, 0), 2);
        check.due("terms: shared", x.count(5), 1);
        x.cut(0);
        check.due("terms: c has one parent", x.node(3, 0), 1);
        check.due("terms: shared none", x.count(5), 0);
        check.due("terms: vanished below", x.node(4, 1), UNKNOWN);
        check.due("terms: c is possible again", x.cloneTo(1, -1), 2);
    }

    private static void theLastNode() {
        CloneOutline x = new CloneOutline();
        for (int i = 0; i < 40; i++) {
            Check.add(x, -1, "a");
        }
        check.due("terms: mark of node 40", x.mark(39, 4), 16);
        Check.text(x, "12345678");
        check.due("terms: text of node 40", x.edit(39), 1);
        check.due("terms: clone of node 40", x.cloneTo(39, 0), 2);
        check.due("terms: node 40 is shared", x.count(5), 1);
        check.due("terms: its parents", x.node(40, 0), 2);
        check.due("terms: keep", x.keep(), 41);
        x.undo();
        x.undo();
        x.undo();
        check.due("terms: no mark", x.row(39, 5), 0);
        check.dueText("terms: the first text", Check.textOf(x, 39), "a");
        check.due("terms: no clone", x.count(2), 40);
        x.restore();
        check.due("terms: the mark again", x.row(40, 5), 16);
        check.dueText("terms: the text again", Check.textOf(x, 1), "12345678");
        check.due("terms: there is no node 41", x.node(41, 0), UNKNOWN);
    }

    /** 120 places that are places of 120 different pairs of a parent and its child. */
    private static void manyParents() {
        CloneOutline x = Check.outline("a,b,c");
        Check.text(x, "n");
        for (int i = 0; i < 36; i++) {
            check.due("terms: leaf " + i, x.add(0), i + 4);
        }
        for (int i = 0; i < 36; i++) {
            check.due("terms: leaf into b", x.cloneTo(1 + i, 37), 2);
        }
        for (int i = 0; i < 36; i++) {
            check.due("terms: leaf into c", x.cloneTo(1 + i, 74), 3);
        }
        for (int i = 0; i < 9; i++) {
            check.due("terms: leaf to the root", x.cloneTo(1 + i, -1), 4);
        }
        check.due("terms: 120 places", x.count(2), 120);
        check.due("terms: 36 shared", x.count(5), 36);
        check.due("terms: no room to clone", x.cloneTo(10, -1), FULL);
        check.due("terms: no room to add", x.add(119), FULL);
        check.due("terms: room to move", x.move(10, -1), 3);
        check.due("terms: still 120 places", x.count(2), 120);
        check.due("terms: the last pair", x.cut(119), 0);
        check.due("terms: 119 places", x.count(2), 119);
        check.due("terms: fold all", x.foldLevel(1), 12);
        check.due("terms: three folded", x.count(4), 3);
        check.due("terms: the first folds", x.row(0, 4), 1);
        check.due("terms: one more", x.cloneTo(3, 0), NOT_POSSIBLE);
        check.due("terms: level", x.count(6), 2);
        check.due("terms: cut c", x.cut(2), 1);
        check.due("terms: 82 places", x.count(2), 119 - 37);
    }
}
