/** Promises 9 to 17: folds, texts, history. */
public final class FoldsAndTextsTest {
    private static final int UNKNOWN = -2;
    private static final int BAD_VALUE = -3;
    private static final int FULL = -4;
    private static final int NOT_POSSIBLE = -5;
    private static final int NONE = -6;
    private static final Check check = new Check("FoldsAndTextsTest");

    public static void main(String[] args) {
        promise9();
        promise10();
        promise11();
        promise12And13();
        promise14();
        promise14Faults();
        promise14Again();
        promise14Full();
        promise15();
        promise16And17();
        check.end();
    }

    private static void promise9() {
        CloneOutline x = Check.outline("a(b(c)),d(b)");
        check.due("9: unknown", x.fold(6, true), UNKNOWN);
        check.due("9: the root", x.fold(-1, true), UNKNOWN);
        check.due("9: no children", x.fold(2, true), NOT_POSSIBLE);
        check.due("9: no children, unfold", x.fold(2, false), NOT_POSSIBLE);
        check.due("9: is not folded", x.fold(0, false), NONE);
        check.due("9: nothing recorded", x.count(7), 1);
        check.due("9: fold a place", x.fold(1, true), 5);
        check.dueText("9: each for itself", Check.rows(x), "1:1 2:2+ 1:4 2:2 3:3");
        check.due("9: is folded", x.fold(1, true), NONE);
        check.due("9: fold around", x.fold(0, true), 4);
        check.due("9: unfold around", x.fold(0, false), 5);
        check.dueText("9: the fold within stays", Check.rows(x), "1:1 2:2+ 1:4 2:2 3:3");
        check.due("9: unfold", x.fold(1, false), 6);
        check.due("9: act", x.count(7), 5);
        // A fold stays when the last child goes; then it can neither be folded nor unfolded.
        x = Check.outline("a(b),c,d(a)");
        x.fold(0, true);
        check.due("9: cut b in d", x.cut(4), 1);
        check.dueText("9: the childless place is folded", Check.rows(x), "1:1+ 1:3 1:4 2:1");
        check.due("9: told", x.row(0, 4), 1);
        check.due("9: counted", x.count(4), 1);
        check.due("9: cannot be unfolded", x.fold(0, false), NOT_POSSIBLE);
        check.due("9: cannot be folded", x.fold(0, true), NOT_POSSIBLE);
        check.due("9: c into a", x.move(1, 3), 2);
        check.dueText("9: its new child is not seen", Check.rows(x), "1:1+ 1:4 2:1 3:3");
        check.due("9: now it can be unfolded", x.fold(0, false), 5);
    }

    private static void promise10() {
        CloneOutline x = Check.outline("a(b(c)),d(b),e");
        check.due("10: 0", x.foldLevel(0), BAD_VALUE);
        check.due("10: -1", x.foldLevel(-1), BAD_VALUE);
        check.due("10: 41", x.foldLevel(41), BAD_VALUE);
        check.due("10: 40", x.foldLevel(40), NONE);
        check.due("10: leaves alone at level 3", x.foldLevel(3), NONE);
        check.due("10: nothing recorded", x.count(7), 1);
        check.due("10: level 2", x.foldLevel(2), 5);
        check.dueText("10: rows", Check.rows(x), "1:1 2:2+ 1:4 2:2+ 1:5");
        check.due("10: level 2 again", x.foldLevel(2), NONE);
        check.due("10: level 1", x.foldLevel(1), 3);
        check.dueText("10: e has no children", Check.rows(x), "1:1+ 1:4+ 1:5");
        check.due("10: deeper folds stay", x.count(4), 4);
        check.due("10: level 2 unfolds level 1", x.foldLevel(2), 5);
        check.due("10: level 40 unfolds all", x.foldLevel(40), 7);
        check.due("10: none folded", x.count(4), 0);
        check.due("10: act", x.count(7), 5);
        // Places that are not seen are folded, too; deeper ones are left as they are.
        x = Check.outline("a(b(c(d)))");
        x.fold(2, true);
        x.fold(0, true);
        check.due("10: level 2, unseen then seen", x.foldLevel(2), 2);
        check.due("10: two are folded", x.count(4), 2);
        check.due("10: level 3 is folded already", x.foldLevel(3), 3);
        // A place that lost its children is unfolded, but not folded.
        x = Check.outline("a(b),c(a)");
        x.fold(0, true);
        x.cut(3);
        check.due("10: childless and folded", x.count(4), 1);
        check.due("10: level 1 leaves it", x.foldLevel(1), 2);
        check.due("10: both", x.count(4), 2);
        check.due("10: level 2 unfolds both", x.foldLevel(2), 3);
        check.due("10: none", x.count(4), 0);
    }

    private static void promise11() {
        CloneOutline x = Check.outline("a(b(c(d))),e(c)");
        check.due("11: the root", x.show(0), UNKNOWN);
        check.due("11: -1", x.show(-1), UNKNOWN);
        check.due("11: never made", x.show(6), UNKNOWN);
        check.due("11: least", x.show(Integer.MIN_VALUE), UNKNOWN);
        check.due("11: greatest", x.show(Integer.MAX_VALUE), UNKNOWN);
        check.due("11: seen", x.show(4), NONE);
        x.fold(2, true);
        x.fold(1, true);
        x.fold(0, true);
        x.fold(2, true);
        check.dueText("11: rows", Check.rows(x), "1:1+ 1:5 2:3+");
        check.due("11: recorded", x.count(7), 5);
        check.due("11: the first place of c", x.show(3), 2);
        check.dueText("11: its own fold stays", Check.rows(x), "1:1 2:2 3:3+ 1:5 2:3+");
        check.due("11: d", x.show(4), 3);
        check.dueText("11: one of both", Check.rows(x), "1:1 2:2 3:3 4:4 1:5 2:3+");
        check.due("11: again", x.show(4), NONE);
        x.undo();
        x.undo();
        check.dueText("11: undone", Check.rows(x), "1:1+ 1:5 2:3+");
        x.cut(0);
        check.due("11: vanished", x.show(1), UNKNOWN);
        x = Check.outline("a(b(c),d(e(f))),g(h)");
        x.fold(6, true);
        x.fold(1, true);
        x.fold(2, true);
        check.dueText("11: rows", Check.rows(x), "1:1 2:2+ 2:4+ 1:7+");
        check.due("11: f", x.show(6), 4);
        check.dueText("11: what it is not within stays", Check.rows(x), "1:1 2:2+ 2:4 3:5 4:6 1:7+");
    }

    private static void promise12And13() {
        CloneOutline x = new CloneOutline();
        check.due("13: empty", x.clearText(), 0);
        for (int i = 1; i <= 60; i++) {
            check.due("12: length", x.type((char) i), i);
        }
        check.due("12: full", x.type('a'), FULL);
        check.due("12: length stays", x.count(8), 60);
        check.due("13: had 60", x.clearText(), 60);
        check.due("13: empty then", x.count(8), 0);
        check.due("13: again", x.clearText(), 0);
        check.due("12: no acts", x.count(7), 0);
        char[] some = {0, 1, 127, 128, 233, 255};
        for (char one : some) {
            x.type(one);
        }
        check.due("12: any character makes a text", x.add(-1), 1);
        for (int i = 0; i < some.length; i++) {
            check.due("12: code", x.charAt(0, i), some[i]);
        }
    }

    private static void promise14() {
        CloneOutline x = new CloneOutline();
        check.due("14: one", Check.read(x, "z"), 1);
        check.due("14: the text stays", x.count(8), 1);
        check.due("14: act", x.count(7), 1);
        check.due("14: places", Check.read(x, "c(b(a)),d(b,c),a"), 10);
        check.dueText("14: rows", Check.rows(x), "1:1 2:2 3:3 1:4 2:2 3:3 2:1 3:2 4:3 1:3");
        check.dueText("14: texts", Check.textOf(x, 0) + Check.textOf(x, 1) + Check.textOf(x, 2) + Check.textOf(x, 3), "cbad");
        check.due("14: made", x.count(1), 4);
        x.mark(0, 1);
        x.fold(0, true);
        check.due("14: again", x.readOutline(), 10);
        check.due("14: no marks", x.row(0, 5), 0);
        check.due("14: not folded", x.count(4), 0);
        check.due("14: recorded", x.count(7), 5);
        x.undo();
        check.due("14: marks are undone", x.row(0, 5), 2);
        check.due("14: folds are undone", x.count(4), 1);
        Check.read(x, "a(b)");
        check.due("14: nodes are numbered on", Check.add(x, -1, "n"), 3);
        check.due("14: deep", Check.read(x, "a(b(c(d(e(f(g(h(i(j(k(l(m(n(o(p(q(r(s(t)))))))))))))))))))"), 20);
        check.due("14: level", x.count(6), 20);
        check.due("14: the whole alphabet", Check.read(x, "a,b,c,d,e,f,g,h,i,j,k,l,m,n,o,p,q,r,s,t,u,v,w,x,y,z(a,b,c,d)"), 30);
        x = new CloneOutline();
        check.due("14: a full text", Check.read(x, "a(b,c,d),e(b,c,d),f(b,c,d),g(b,c,d),h(b,c,d),i(b,c,d),j(k)"), 6 * 4 + 2);
    }

    private static void fault(String text, int index) {
        CloneOutline x = Check.outline("a(b)");
        x.mark(0, 0);
        check.due("14: fault of " + text, Check.read(x, text), -100 - index);
        check.due("14: nothing recorded", x.count(7), 2);
        check.dueText("14: nothing changed", Check.rows(x), "1:1 2:2");
        check.due("14: nothing made", x.count(1), 2);
        check.due("14: the text stays", x.count(8), text.length());
    }

    private static void promise14Faults() {
        fault("", 0);
        fault(",", 0);
        fault("(", 0);
        fault(")", 0);
        fault("A", 0);
        fault("`", 0);
        fault("{", 0);
        fault("1", 0);
        fault(" a", 0);
        fault("\u0100a", 0);
        fault("a,", 2);
        fault("a,,b", 2);
        fault("a b", 1);
        fault("a(", 2);
        fault("a()", 2);
        fault("a(b", 3);
        fault("a(b,", 4);
        fault("a(b,)", 4);
        fault("a)", 1);
        fault("a(b))", 4);
        fault("a(b)(c)", 4);
        fault("a(b)c", 4);
        fault("a((", 2);
        fault("aa", 1);
        fault("a,a", 2);
        fault("a(b,b)", 4);
        fault("a(b),a", 5);
        fault("a(a", 2);
        fault("a(b(a", 4);
        fault("a(b(c,a", 6);
        fault("a(b(b", 4);
        fault("a(b),b(", 6);
        fault("a(b(c)),b(d)", 9);
        fault("a,b(a(", 5);
        fault("a(b(c)", 6);
        fault("a(b(c),", 7);
        fault("a(b,c(b,d(b,c", 12);
        fault("a(b,c(b,d(b)),d(", 15);
        fault("abcdefghijklmnopqrstuvwxyzabcdefghijklmnopqrstuvwxyzabcdefgh", 1);
        fault("a,b,c,d,e,f,g,h,i,j,k,l,m,n,o,p,q,r,s,t,u,v,w,x,y,z(a,b,c,d,", 60);
    }

    private static void promise14Again() {
        CloneOutline x = new CloneOutline();
        check.due("14: a fault with open lists", Check.read(x, "a(b(c"), -105);
        check.due("14: none is open then", Check.read(x, "a)"), -101);
        check.due("14: a letter stands", Check.read(x, "b"), 1);
        check.due("14: it does not stand any more", Check.read(x, "b(a)"), 2);
        check.due("14: nor is it opened", Check.read(x, "(a)"), -100);
        check.due("14: two states", x.count(7), 2);
    }

    private static void promise14Full() {
        CloneOutline x = Check.outline("a(b)");
        // Each node has all that come before it as its children: 1 + 2 + 4 + 8 + 16 + 32 places.
        String fan = "a,b(a),c(a,b),d(a,b,c),e(a,b,c,d),f(a,b,c,d,e)";
        check.due("14: 63 places", Check.read(x, fan), 63);
        check.due("14: 120 places", Check.read(x, fan + ",g(d,e,f)"), 120);
        check.due("14: 121 places", Check.read(x, fan + ",g(d,e,f),h"), FULL);
        check.due("14: 127 places", Check.read(x, fan + ",g(b,c,d,e,f)"), FULL);
        check.due("14: many more places", Check.read(x, fan + ",g(e,f),h(g,f)"), FULL);
        check.due("14: a fault before full", Check.read(x, fan + ",g(b,c,d,e,f"), -158);
        check.due("14: nothing recorded", x.count(7), 3);
        check.due("14: nothing changed", x.count(2), 120);
    }

    private static void promise15() {
        CloneOutline x = new CloneOutline();
        check.due("15: empty", x.undo(), NONE);
        for (int i = 1; i <= 7; i++) {
            Check.add(x, -1, "a");
            check.due("15: at most 5", x.count(7), Math.min(i, 5));
        }
        for (int left = 4; left >= 0; left--) {
            check.due("15: left", x.undo(), left);
            check.due("15: nodes", x.count(0), left + 2);
            check.due("15: made", x.count(1), left + 2);
        }
        check.due("15: empty", x.undo(), NONE);
        check.due("15: the oldest is dropped", x.count(0), 2);
        check.due("15: the text is no state", x.count(8), 1);
        x.mark(0, 3);
        x.mark(1, 3);
        x.undo();
        check.due("15: between", Check.add(x, 0, "b"), 3);
        x.undo();
        x.undo();
        check.due("15: no marks", x.row(0, 5), 0);
        check.due("15: empty again", x.undo(), NONE);
    }

    private static void promise16And17() {
        CloneOutline x = new CloneOutline();
        check.due("17: no snapshot", x.restore(), NONE);
        check.due("16: empty outline", x.keep(), 0);
        check.due("16: no act", x.count(7), 0);
        Check.read(x, "a(b),c");
        check.due("17: empty outline", x.restore(), 0);
        check.due("17: act", x.count(7), 2);
        check.due("17: undo", x.undo(), 1);
        check.dueText("17: undone", Check.rows(x), "1:1 2:2 1:3");
        x.fold(0, true);
        x.mark(1, 2);
        Check.text(x, "xyz");
        x.edit(1);
        check.due("16: rows", x.keep(), 2);
        check.due("16: no act", x.count(7), 4);
        x.cut(0);
        x.cut(0);
        Check.add(x, -1, "n");
        Check.text(x, "pq");
        check.due("17: rows", x.restore(), 2);
        check.due("17: the text is no state", x.count(8), 2);
        check.dueText("17: folds", Check.rows(x), "1:1+ 1:3");
        check.due("17: marks", x.row(1, 5), 4);
        check.dueText("17: texts", Check.textOf(x, 1), "xyz");
        check.due("17: made", x.count(1), 3);
        check.due("17: it stays", x.restore(), 2);
        x.mark(0, 0);
        check.due("17: acts do not change it", x.restore(), 2);
        check.due("17: no mark", x.row(0, 5), 0);
        check.due("17: history", x.count(7), 5);
        x.undo();
        check.due("17: undone", x.row(0, 5), 1);
        check.due("17: undo keeps the snapshot", x.restore(), 2);
    }
}
