/** Promises 18 to 24: what is told; no call of these changes anything. */
public final class ToldTest {
    private static final int UNKNOWN = -2;
    private static final int BAD_VALUE = -3;
    private static final int NONE = -6;
    private static final Check check = new Check("ToldTest");

    public static void main(String[] args) {
        promise18();
        promise19();
        promise20();
        promise21();
        promise22();
        promise23();
        promise24();
        check.end();
    }

    /** Rows: 0 a, 1 b (folded, with c and d in it), 2 e, 3 f, 4 b, 5 c, 6 d, 7 c, of the nodes 1 to 6. */
    private static CloneOutline sample() {
        CloneOutline x = Check.outline("a(b(c,d),e),f(b,c)");
        x.fold(1, true);
        x.mark(1, 3);
        return x;
    }

    private static void row(CloneOutline x, int row, int... due) {
        for (int what = 0; what < due.length; what++) {
            check.due("18: row(" + row + ", " + what + ")", x.row(row, what), due[what]);
        }
    }

    private static void promise18() {
        CloneOutline x = sample();
        row(x, 0, 1, 1, 0, 2, 0, 0, 1, -1, 2);
        row(x, 1, 2, 2, 0, 2, 1, 8, 2, 0, 0);
        row(x, 2, 5, 2, 1, 0, 0, 0, 1, 0, 0);
        row(x, 3, 6, 1, 1, 2, 0, 0, 1, -1, 4);
        row(x, 4, 2, 2, 0, 2, 0, 8, 2, 3, 2);
        row(x, 5, 3, 3, 0, 0, 0, 0, 3, 4, 0);
        row(x, 6, 4, 3, 1, 0, 0, 0, 2, 4, 0);
        row(x, 7, 3, 2, 1, 0, 0, 0, 3, 3, 0);
        check.due("18: no row", x.row(8, 0), UNKNOWN);
        check.due("18: the root", x.row(-1, 0), UNKNOWN);
        check.due("18: unknown before bad", x.row(8, 9), UNKNOWN);
        check.due("18: 9", x.row(0, 9), BAD_VALUE);
        check.due("18: -1", x.row(0, -1), BAD_VALUE);
        check.due("18: greatest", x.row(Integer.MAX_VALUE, 0), UNKNOWN);
        check.due("18: least", x.row(Integer.MIN_VALUE, 0), UNKNOWN);
    }

    private static void promise19() {
        CloneOutline x = sample();
        check.due("19: 2", x.number(6, 1), 2);
        check.due("19: 2.1", x.number(6, 2), 1);
        check.due("19: 2.1.2", x.number(6, 3), 2);
        check.due("19: deeper", x.number(6, 4), NONE);
        check.due("19: 1.2", x.number(2, 2), 2);
        check.due("19: 1", x.number(0, 1), 1);
        check.due("19: 1 has no more", x.number(0, 2), NONE);
        check.due("19: level 0", x.number(0, 0), BAD_VALUE);
        check.due("19: least level", x.number(0, Integer.MIN_VALUE), BAD_VALUE);
        check.due("19: greatest level", x.number(0, Integer.MAX_VALUE), NONE);
        check.due("19: unknown before bad", x.number(8, 0), UNKNOWN);
        check.due("19: the root", x.number(-1, 1), UNKNOWN);
    }

    private static void promise20() {
        CloneOutline x = Check.outline("a");
        Check.text(x, "12345678");
        x.edit(0);
        check.due("20: first", x.charAt(0, 0), '1');
        check.due("20: last", x.charAt(0, 7), '8');
        check.due("20: behind", x.charAt(0, 8), NONE);
        check.due("20: far behind", x.charAt(0, Integer.MAX_VALUE), NONE);
        check.due("20: negative", x.charAt(0, -1), BAD_VALUE);
        check.due("20: least", x.charAt(0, Integer.MIN_VALUE), BAD_VALUE);
        check.due("20: unknown before bad", x.charAt(1, -1), UNKNOWN);
        check.due("20: the root", x.charAt(-1, 0), UNKNOWN);
        Check.text(x, "xy");
        x.edit(0);
        check.due("20: a shorter text", x.charAt(0, 2), NONE);
    }

    private static void node(CloneOutline x, int node, int... due) {
        for (int what = 0; what < due.length; what++) {
            check.due("21: node(" + node + ", " + what + ")", x.node(node, what), due[what]);
        }
    }

    private static void promise21() {
        CloneOutline x = sample();
        node(x, 1, 1, 1, 1, 2, 0, 0, 1, 4);
        node(x, 2, 2, 2, 2, 2, 8, 1, 1, 2);
        node(x, 3, 2, 3, 2, 0, 0, 5, 1, 0);
        node(x, 4, 1, 2, 1, 0, 0, 6, 1, 0);
        node(x, 6, 1, 1, 1, 2, 0, 3, 1, 3);
        x.fold(4, true);
        check.due("21: none is seen", x.node(4, 5), NONE);
        check.due("21: seen places", x.node(4, 2), 0);
        check.due("21: places", x.node(4, 1), 2);
        check.due("21: the root", x.node(0, 0), UNKNOWN);
        check.due("21: -1", x.node(-1, 0), UNKNOWN);
        check.due("21: never made", x.node(7, 0), UNKNOWN);
        check.due("21: 64", x.node(64, 0), UNKNOWN);
        check.due("21: greatest", x.node(Integer.MAX_VALUE, 7), UNKNOWN);
        check.due("21: least", x.node(Integer.MIN_VALUE, 7), UNKNOWN);
        check.due("21: unknown before bad", x.node(7, 8), UNKNOWN);
        check.due("21: 8", x.node(1, 8), BAD_VALUE);
        check.due("21: -1", x.node(1, -1), BAD_VALUE);
        x.cut(0);
        check.due("21: vanished", x.node(1, 0), UNKNOWN);
        Check.text(x, "four");
        x.edit(0);
        check.due("21: length", x.node(6, 6), 4);
        x.cloneTo(1, -1);
        check.due("21: the root is a parent", x.node(2, 0), 2);
    }

    private static void promise22() {
        CloneOutline x = sample();
        check.due("22: from the begin", x.nextMarked(-1, 3), 1);
        check.due("22: from the row before", x.nextMarked(0, 3), 1);
        check.due("22: behind itself", x.nextMarked(1, 3), 4);
        check.due("22: none behind", x.nextMarked(4, 3), NONE);
        check.due("22: another mark", x.nextMarked(-1, 2), NONE);
        check.due("22: the last row", x.nextMarked(7, 3), NONE);
        check.due("22: unknown before bad", x.nextMarked(8, 5), UNKNOWN);
        check.due("22: -2", x.nextMarked(-2, 3), UNKNOWN);
        check.due("22: greatest", x.nextMarked(Integer.MAX_VALUE, 3), UNKNOWN);
        check.due("22: mark 5", x.nextMarked(0, 5), BAD_VALUE);
        check.due("22: mark -1", x.nextMarked(0, -1), BAD_VALUE);
        x.mark(0, 0);
        check.due("22: row 0", x.nextMarked(-1, 0), 0);
        x.mark(6, 4);
        check.due("22: rows that are seen", x.nextMarked(-1, 4), 6);
        check.due("22: empty outline", new CloneOutline().nextMarked(-1, 0), NONE);
    }

    private static void promise23() {
        CloneOutline x = sample();
        Check.text(x, "c");
        check.due("23: first seen", x.find(-1), 5);
        check.due("23: next", x.find(5), 7);
        check.due("23: none behind", x.find(7), NONE);
        check.due("23: unknown", x.find(8), UNKNOWN);
        check.due("23: -2", x.find(-2), UNKNOWN);
        Check.text(x, "");
        check.due("23: empty", x.find(-1), NONE);
        check.due("23: empty, unknown", x.find(8), UNKNOWN);
        Check.text(x, "cc");
        check.due("23: longer", x.find(-1), NONE);
        Check.text(x, "123456789");
        check.due("23: too long for a node", x.find(-1), NONE);
        Check.text(x, "12345678");
        x.edit(2);
        check.due("23: all characters", x.find(-1), 2);
        Check.text(x, "12345679");
        check.due("23: all but one", x.find(-1), NONE);
        Check.text(x, "a");
        check.due("23: row 0", x.find(-1), 0);
    }

    private static void promise24() {
        CloneOutline x = sample();
        int[] due = {6, 6, 10, 8, 1, 2, 3, 3, 18};
        for (int what = 0; what <= 8; what++) {
            check.due("24: count(" + what + ")", x.count(what), due[what]);
        }
        check.due("24: 9", x.count(9), BAD_VALUE);
        check.due("24: -1", x.count(-1), BAD_VALUE);
        x.cut(0);
        int[] then = {4, 6, 5, 5, 0, 1, 3, 4, 18};
        for (int what = 0; what <= 8; what++) {
            check.due("24: then count(" + what + ")", x.count(what), then[what]);
        }
    }
}
