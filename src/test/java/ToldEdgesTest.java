import java.util.function.Consumer;

/** Each sentence of the promises 18 to 24 that names a boundary; none of these calls changes anything. */
public final class ToldEdgesTest {
    private static final int UNKNOWN = Edges.UNKNOWN;
    private static final int BAD_VALUE = Edges.BAD_VALUE;
    private static final int NONE = Edges.NONE;
    private static final Edges edges = new Edges("ToldEdgesTest");

    public static void main(String[] args) {
        rowWhats();
        rowOfEach();
        rowOfFolded();
        rowOfTheFullOutline();
        numberOfLevels();
        numberAtEachLevel();
        charAtIndex();
        nodeWhats();
        nodeNumbers();
        nodeOfEach();
        nodesWithin();
        nextMarkedRows();
        nextMarkedMarks();
        findRows();
        findTexts();
        countWhats();
        countOfEach();
        constants();
        edges.end();
    }

    private static Outline x(Consumer<Outline> setup) {
        return Edges.made(setup).get();
    }

    /** Rows: 0 a, 1 b (folded, with c and d in it), 2 e, 3 f, 4 b, 5 c, 6 d, 7 c, of the nodes 1 to 6. */
    private static Consumer<Outline> sample() {
        return Edges.reading("a(b(c,d),e),f(b,c)", "c").andThen(x -> {
            x.fold(1, true);
            x.mark(1, 3);
            x.mark(7, 0);
        });
    }

    /** Promise 18: "what: 0 ... 8" and "Returns the number; UNKNOWN; BAD_VALUE." */
    private static void rowWhats() {
        for (int what : new int[] {-1, 9, 10, -8, Integer.MAX_VALUE, Integer.MIN_VALUE}) {
            edges.still("18: what " + what, sample(), x -> x.row(0, what), BAD_VALUE);
            edges.still("18: UNKNOWN before what " + what, sample(), x -> x.row(8, what), UNKNOWN);
            edges.still("18: the root, what " + what, sample(), x -> x.row(-1, what), UNKNOWN);
        }
        for (int what = 0; what <= 8; what++) {
            int one = what;
            edges.still("18: behind the last row, what " + what, sample(), x -> x.row(8, one), UNKNOWN);
            edges.still("18: the root, what " + what, sample(), x -> x.row(-1, one), UNKNOWN);
        }
    }

    private static void row(Consumer<Outline> setup, int row, int... due) {
        for (int what = 0; what < due.length; what++) {
            int one = what;
            edges.stillOnce("18: row(" + row + ", " + what + ")", setup, x -> x.row(row, one), due[what]);
        }
    }

    /** Promise 18: what is told of a row, with the root as its parent and without. */
    private static void rowOfEach() {
        row(sample(), 0, 1, 1, 0, 2, 0, 0, 1, -1, 2);
        row(sample(), 1, 2, 2, 0, 2, 1, 8, 2, 0, 0);
        row(sample(), 2, 5, 2, 1, 0, 0, 0, 1, 0, 0);
        row(sample(), 3, 6, 1, 1, 2, 0, 0, 1, -1, 4);
        row(sample(), 4, 2, 2, 0, 2, 0, 8, 2, 3, 2);
        row(sample(), 5, 3, 3, 0, 0, 0, 1, 3, 4, 0);
        row(sample(), 6, 4, 3, 1, 0, 0, 0, 2, 4, 0);
        row(sample(), 7, 3, 2, 1, 0, 0, 1, 3, 3, 0);
    }

    /** Promise 18: "8 for the number of rows within it": rows, not places; 4 also without children. */
    private static void rowOfFolded() {
        Consumer<Outline> inner = Edges.reading("a(b(c(d)),e),f").andThen(x -> x.fold(1, true));
        row(inner, 0, 1, 1, 0, 2, 0, 0, 1, -1, 2);
        row(inner.andThen(x -> x.fold(0, true)), 0, 1, 1, 0, 2, 1, 0, 1, -1, 0);
        row(inner.andThen(x -> x.fold(0, true)), 1, 6, 1, 1, 0, 0, 0, 1, -1, 0);
        Consumer<Outline> childless = Edges.reading("a(b),c(a)").andThen(x -> x.fold(0, true)).andThen(x -> x.cut(3));
        row(childless, 0, 1, 1, 0, 0, 1, 0, 2, -1, 0);
        row(childless, 2, 1, 2, 0, 0, 0, 0, 2, 1, 0);
    }

    /** Promise 18 at 120 rows, and in a chain of 40. */
    private static void rowOfTheFullOutline() {
        Consumer<Outline> full = Edges.places(120);
        row(full, 0, 1, 1, 0, 0, 0, 0, 58, -1, 0);
        row(full, 31, 6, 1, 5, 5, 0, 0, 2, -1, 31);
        row(full, 63, 7, 1, 6, 3, 0, 0, 1, -1, 52);
        row(full, 115, 1, 7, 0, 0, 0, 0, 58, 114, 0);
        row(full, 119, 11, 1, 10, 0, 0, 0, 1, -1, 0);
        row(full, 120, UNKNOWN, UNKNOWN);
        Consumer<Outline> chain = Edges.chain(40);
        row(chain, 39, 40, 40, 0, 0, 0, 0, 1, 38, 0);
        row(chain, 0, 1, 1, 0, 1, 0, 0, 1, -1, 39);
        row(Edges.adding(40, "n"), 39, 40, 1, 39, 0, 0, 0, 1, -1, 0);
        row(Edges.family(), 0, 1, 1, 0, 39, 0, 0, 1, -1, 39);
    }

    /** Promise 19: "BAD_VALUE if level is less than 1; NONE if the row has a lower level than this" */
    private static void numberOfLevels() {
        for (int level : new int[] {0, -1, -40, Integer.MIN_VALUE}) {
            edges.still("19: level " + level, sample(), x -> x.number(0, level), BAD_VALUE);
            edges.still("19: UNKNOWN before level " + level, sample(), x -> x.number(8, level), UNKNOWN);
            edges.still("19: the root, level " + level, sample(), x -> x.number(-1, level), UNKNOWN);
        }
        edges.still("19: level 1 of 1", sample(), x -> x.number(3, 1), 2);
        edges.still("19: level 2 of 1", sample(), x -> x.number(3, 2), NONE);
        edges.still("19: level 2 of 2", sample(), x -> x.number(7, 2), 2);
        edges.still("19: level 3 of 2", sample(), x -> x.number(7, 3), NONE);
        edges.still("19: level 3 of 3", sample(), x -> x.number(6, 3), 2);
        edges.still("19: level 4 of 3", sample(), x -> x.number(6, 4), NONE);
        for (int level : new int[] {40, 41, 1000, Integer.MAX_VALUE}) {
            edges.still("19: level " + level, sample(), x -> x.number(0, level), NONE);
            edges.still("19: UNKNOWN before level " + level, sample(), x -> x.number(8, level), UNKNOWN);
        }
        edges.still("19: level 40 of 40", Edges.chain(40), x -> x.number(39, 40), 1);
        edges.still("19: level 40 of 39", Edges.chain(40), x -> x.number(38, 40), NONE);
        edges.still("19: level 41 of 40", Edges.chain(40), x -> x.number(39, 41), NONE);
        edges.still("19: the root", sample(), x -> x.number(-1, 1), UNKNOWN);
        edges.still("19: in an empty outline", Edges.NOTHING, x -> x.number(0, 1), UNKNOWN);
    }

    /** Promise 19: "at each level, the position of the place at this level that the row is within (or is), plus 1" */
    private static void numberAtEachLevel() {
        Consumer<Outline> setup = Edges.reading("a,b(c,d(e,f,g),h),i(d)");
        int[][] due = {{1}, {2}, {2, 1}, {2, 2}, {2, 2, 1}, {2, 2, 2}, {2, 2, 3}, {2, 3}, {3}, {3, 1}, {3, 1, 1}, {3, 1, 2}, {3, 1, 3}};
        Outline x = x(setup);
        for (int row = 0; row < due.length; row++) {
            for (int level = 1; level <= due[row].length; level++) {
                edges.due("19: number(" + row + ", " + level + ")", x.number(row, level), due[row][level - 1]);
            }
            edges.due("19: number of the row " + row + " ends", x.number(row, due[row].length + 1), NONE);
        }
        // Siblings that are not seen count nevertheless, and their children do not.
        Outline folded = x(setup.andThen(y -> y.fold(3, true)));
        edges.due("19: behind a folded one", folded.number(4, 2), 3);
        edges.due("19: the 40th", x(Edges.adding(40, "n")).number(39, 1), 40);
    }

    /** Promise 20: "index: an index in the text of its node, from 0"; "BAD_VALUE if index is negative; NONE if ..." */
    private static void charAtIndex() {
        for (int length : new int[] {1, 2, 7, 8}) {
            String text = "12345678".substring(0, length);
            Consumer<Outline> setup = Edges.reading("a(b),c", text).andThen(x -> x.edit(1)).andThen(x -> x.text("n"));
            edges.still("20: the first of " + length, setup, x -> x.charAt(1, 0), '1');
            edges.still("20: the last of " + length, setup, x -> x.charAt(1, length - 1), '0' + length);
            edges.still("20: behind the last of " + length, setup, x -> x.charAt(1, length), NONE);
            edges.still("20: index -1 of " + length, setup, x -> x.charAt(1, -1), BAD_VALUE);
            edges.still("20: index 8 of " + length, setup, x -> x.charAt(1, 8), NONE);
        }
        edges.still("20: the greatest index", sample(), x -> x.charAt(0, Integer.MAX_VALUE), NONE);
        edges.still("20: the least index", sample(), x -> x.charAt(0, Integer.MIN_VALUE), BAD_VALUE);
        edges.still("20: index 60", sample(), x -> x.charAt(0, 60), NONE);
        edges.still("20: the last row", sample(), x -> x.charAt(7, 0), 'c');
        edges.still("20: behind the last row", sample(), x -> x.charAt(8, 0), UNKNOWN);
        edges.still("20: UNKNOWN before BAD_VALUE", sample(), x -> x.charAt(8, -1), UNKNOWN);
        edges.still("20: the root", sample(), x -> x.charAt(-1, 0), UNKNOWN);
        edges.still("20: the root, index -1", sample(), x -> x.charAt(-1, -1), UNKNOWN);
    }

    /** Promise 21: "what: 0 ... 7" and "Returns the number; UNKNOWN ...; BAD_VALUE." */
    private static void nodeWhats() {
        for (int what : new int[] {-1, 8, 9, -7, Integer.MAX_VALUE, Integer.MIN_VALUE}) {
            edges.still("21: what " + what, sample(), x -> x.node(1, what), BAD_VALUE);
            edges.still("21: UNKNOWN before what " + what, sample(), x -> x.node(7, what), UNKNOWN);
            edges.still("21: the root, what " + what, sample(), x -> x.node(0, what), UNKNOWN);
        }
    }

    /** Promise 21: "node: a node (not the root)"; "UNKNOWN if it vanished or was never made" */
    private static void nodeNumbers() {
        Consumer<Outline> cut = sample().andThen(x -> x.cut(2));
        for (int what = 0; what <= 7; what++) {
            int one = what;
            for (int node : new int[] {0, -1, 5, 7}) {
                edges.stillOnce("21: node " + node + ", what " + what, cut, x -> x.node(node, one), UNKNOWN);
            }
        }
        for (int node : new int[] {8, 40, 41, 63, 64, 65, 66, 69, -63, -64, Integer.MAX_VALUE, Integer.MIN_VALUE}) {
            edges.still("21: node " + node, cut, x -> x.node(node, 0), UNKNOWN);
        }
        edges.still("21: node 1", cut, x -> x.node(1, 0), 1);
        edges.still("21: node 6", cut, x -> x.node(6, 0), 1);
        edges.still("21: node 40", Edges.chain(40), x -> x.node(40, 1), 1);
        edges.still("21: node 41", Edges.chain(40), x -> x.node(41, 1), UNKNOWN);
        edges.still("21: no node 40 yet", Edges.chain(39), x -> x.node(40, 1), UNKNOWN);
        edges.still("21: no node at all", Edges.NOTHING, x -> x.node(1, 0), UNKNOWN);
        edges.still("21: vanished by undo", Edges.chain(2).andThen(Outline::undo), x -> x.node(2, 0), UNKNOWN);
    }

    private static void node(Consumer<Outline> setup, int node, int... due) {
        for (int what = 0; what < due.length; what++) {
            int one = what;
            edges.stillOnce("21: node(" + node + ", " + what + ")", setup, x -> x.node(node, one), due[what]);
        }
    }

    /** Promise 21: what is told of a node, also if none of its places is seen. */
    private static void nodeOfEach() {
        node(sample(), 1, 1, 1, 1, 2, 0, 0, 1, 4);
        node(sample(), 2, 2, 2, 2, 2, 8, 1, 1, 2);
        node(sample(), 3, 2, 3, 2, 0, 1, 5, 1, 0);
        node(sample(), 4, 1, 2, 1, 0, 0, 6, 1, 0);
        node(sample(), 5, 1, 1, 1, 0, 0, 2, 1, 0);
        node(sample(), 6, 1, 1, 1, 2, 0, 3, 1, 3);
        node(sample().andThen(x -> x.fold(4, true)), 4, 1, 2, 0, 0, 0, NONE, 1, 0);
        node(sample().andThen(x -> x.fold(4, true)), 3, 2, 3, 1, 0, 1, 5, 1, 0);
        // "the root is one, too"
        node(sample().andThen(x -> x.cloneTo(1, -1)), 2, 3, 3, 3, 2, 8, 1, 1, 2);
        // A place that is not seen comes first: the first row is that of a later place.
        Consumer<Outline> later = Edges.reading("a(c),b(c)").andThen(x -> x.fold(0, true));
        node(later, 2, 2, 2, 1, 0, 0, 2, 1, 0);
        Consumer<Outline> eight = Edges.reading("a", "12345678").andThen(x -> x.edit(0));
        node(eight, 1, 1, 1, 1, 0, 0, 0, 8, 0);
    }

    /** Promise 21: "7 for the number of nodes within it (each once, itself not)" */
    private static void nodesWithin() {
        edges.still("21: each once", Edges.reading("a(b(c),d(c,b))"), x -> x.node(1, 7), 3);
        edges.still("21: itself not", Edges.reading("a"), x -> x.node(1, 7), 0);
        edges.still("21: those of a clone, too", Edges.reading("a(b),c(a)"), x -> x.node(3, 7), 2);
        edges.still("21: also not seen", Edges.reading("a(b(c))").andThen(x -> x.fold(0, true)), x -> x.node(1, 7), 2);
        edges.still("21: the chain", Edges.chain(40), x -> x.node(1, 7), 39);
        edges.still("21: the last of the chain", Edges.chain(40), x -> x.node(40, 7), 0);
        edges.still("21: 52 places, 6 nodes", Edges.places(120), x -> x.node(7, 7), 6);
        edges.still("21: it need not be seen", Edges.reading("a(b(c))").andThen(x -> x.fold(0, true)), x -> x.node(2, 7), 1);
    }

    /** Promise 22: "row: a row, or -1 to begin with the row 0"; "the next row behind a row"; "NONE if there is none" */
    private static void nextMarkedRows() {
        edges.still("22: from -1", sample(), x -> x.nextMarked(-1, 3), 1);
        edges.still("22: from the row before", sample(), x -> x.nextMarked(0, 3), 1);
        edges.still("22: behind the row itself", sample(), x -> x.nextMarked(1, 3), 4);
        edges.still("22: from the last but one of them", sample(), x -> x.nextMarked(3, 3), 4);
        edges.still("22: none behind", sample(), x -> x.nextMarked(4, 3), NONE);
        edges.still("22: only rows that are seen", sample(), x -> x.nextMarked(-1, 0), 5);
        edges.still("22: the last row", sample(), x -> x.nextMarked(6, 0), 7);
        edges.still("22: behind the last row of all", sample(), x -> x.nextMarked(7, 0), NONE);
        edges.still("22: no such row", sample(), x -> x.nextMarked(8, 0), UNKNOWN);
        edges.still("22: row -2", sample(), x -> x.nextMarked(-2, 0), UNKNOWN);
        Consumer<Outline> first = sample().andThen(x -> x.mark(0, 4));
        edges.still("22: the row 0", first, x -> x.nextMarked(-1, 4), 0);
        edges.still("22: not the row 0 from it", first, x -> x.nextMarked(0, 4), NONE);
        edges.still("22: nothing there", Edges.NOTHING, x -> x.nextMarked(-1, 0), NONE);
        edges.still("22: nothing there, row 0", Edges.NOTHING, x -> x.nextMarked(0, 0), UNKNOWN);
        Consumer<Outline> full = Edges.places(120).andThen(x -> x.mark(119, 2));
        edges.still("22: the row 119", full, x -> x.nextMarked(-1, 2), 119);
        edges.still("22: behind the row 119", full, x -> x.nextMarked(119, 2), NONE);
        edges.still("22: the greatest row", sample(), x -> x.nextMarked(Integer.MAX_VALUE, 0), UNKNOWN);
        edges.still("22: the least row", sample(), x -> x.nextMarked(Integer.MIN_VALUE, 0), UNKNOWN);
    }

    /** Promise 22: "mark: 0 to 4" */
    private static void nextMarkedMarks() {
        for (int mark = 0; mark <= 4; mark++) {
            int one = mark;
            Consumer<Outline> setup = Edges.reading("a,b,c").andThen(x -> x.mark(1, one)).andThen(x -> x.mark(0, (one + 1) % 5));
            edges.still("22: mark " + mark, setup, x -> x.nextMarked(-1, one), 1);
            edges.still("22: another than " + mark, setup, x -> x.nextMarked(-1, (one + 2) % 5), NONE);
            edges.still("22: mark " + mark + " taken away", setup.andThen(x -> x.mark(1, one)), x -> x.nextMarked(-1, one), NONE);
        }
        Consumer<Outline> all = Edges.reading("a").andThen(x -> {
            for (int mark = 0; mark <= 4; mark++) {
                x.mark(0, mark);
            }
        });
        for (int mark : new int[] {-1, 5, 6, 32, 36, -32, Integer.MAX_VALUE, Integer.MIN_VALUE}) {
            edges.still("22: mark " + mark, all, x -> x.nextMarked(-1, mark), BAD_VALUE);
            edges.still("22: mark " + mark + " before NONE", all, x -> x.nextMarked(0, mark), BAD_VALUE);
            edges.still("22: UNKNOWN before mark " + mark, all, x -> x.nextMarked(1, mark), UNKNOWN);
            edges.still("22: mark " + mark + " of nothing", Edges.NOTHING, x -> x.nextMarked(-1, mark), BAD_VALUE);
        }
    }

    /** Promise 23: "row: a row, or -1 to begin with the row 0"; "the next row behind a row"; "NONE if there is none" */
    private static void findRows() {
        edges.still("23: from -1, only rows that are seen", sample(), x -> x.find(-1), 5);
        edges.still("23: behind the row itself", sample(), x -> x.find(5), 7);
        edges.still("23: the last row", sample(), x -> x.find(6), 7);
        edges.still("23: behind the last row of all", sample(), x -> x.find(7), NONE);
        edges.still("23: no such row", sample(), x -> x.find(8), UNKNOWN);
        edges.still("23: row -2", sample(), x -> x.find(-2), UNKNOWN);
        Consumer<Outline> first = sample().andThen(x -> x.text("a"));
        edges.still("23: the row 0", first, x -> x.find(-1), 0);
        edges.still("23: not the row 0 from it", first, x -> x.find(0), NONE);
        edges.still("23: nothing there", Edges.NOTHING, x -> x.find(-1), NONE);
        edges.still("23: nothing there, row 0", Edges.NOTHING, x -> x.find(0), UNKNOWN);
        Consumer<Outline> full = Edges.places(120).andThen(x -> x.text("last").edit(119));
        edges.still("23: the row 119", full, x -> x.find(-1), 119);
        edges.still("23: behind the row 119", full, x -> x.find(119), NONE);
        edges.still("23: the greatest row", sample(), x -> x.find(Integer.MAX_VALUE), UNKNOWN);
        edges.still("23: the least row", sample(), x -> x.find(Integer.MIN_VALUE), UNKNOWN);
    }

    /** Promise 23: "whose node has the text": all of it, and no more. */
    private static void findTexts() {
        Consumer<Outline> setup = Edges.reading("a,b,c", "12345678").andThen(x -> x.edit(1));
        edges.still("23: eight", setup, x -> x.find(-1), 1);
        for (String text : new String[] {"1234567", "123456789", "02345678", "12345679", "", "12345678".repeat(7) + "1234", "aa", "A"}) {
            edges.still("23: \"" + text + "\"", setup.andThen(x -> x.text(text)), x -> x.find(-1), NONE);
            edges.still("23: \"" + text + "\", UNKNOWN", setup.andThen(x -> x.text(text)), x -> x.find(3), UNKNOWN);
        }
        edges.still("23: one", setup.andThen(x -> x.text("c")), x -> x.find(-1), 2);
        edges.still("23: a text that it had", setup.andThen(x -> x.text("b")), x -> x.find(-1), NONE);
    }

    /** Promise 24: "what: 0 ... 8" and "Returns the number; BAD_VALUE." */
    private static void countWhats() {
        for (int what : new int[] {-1, 9, 10, -8, Integer.MAX_VALUE, Integer.MIN_VALUE}) {
            edges.still("24: what " + what, sample(), x -> x.count(what), BAD_VALUE);
            edges.still("24: what " + what + " of nothing", Edges.NOTHING, x -> x.count(what), BAD_VALUE);
        }
    }

    private static void counts(String name, Consumer<Outline> setup, int... due) {
        for (int what = 0; what < due.length; what++) {
            int one = what;
            edges.stillOnce("24: count(" + what + ") of " + name, setup, x -> x.count(one), due[what]);
        }
    }

    /** Promise 24: each number, at its least and its greatest. */
    private static void countOfEach() {
        counts("nothing", Edges.NOTHING, 0, 0, 0, 0, 0, 0, 0, 0, 0);
        counts("one node", Edges.adding(1, "n"), 1, 1, 1, 1, 0, 0, 1, 1, 1);
        counts("the sample", sample(), 6, 6, 10, 8, 1, 2, 3, 4, 1);
        counts("what a cut leaves", sample().andThen(x -> x.cut(0)), 4, 6, 5, 5, 0, 1, 3, 5, 1);
        counts("all cut", sample().andThen(x -> x.cut(0)).andThen(x -> x.cut(0)), 0, 6, 0, 0, 0, 0, 0, 5, 1);
        counts("40 nodes", Edges.adding(40, "n"), 40, 40, 40, 40, 0, 0, 1, 5, 1);
        counts("a chain", Edges.chain(40), 40, 40, 40, 40, 0, 0, 40, 5, 1);
        counts("a chain folded", Edges.chain(40).andThen(x -> x.fold(0, true)), 40, 40, 40, 1, 1, 0, 40, 5, 1);
        counts("a full text", Edges.reading("a", "n".repeat(60)), 1, 1, 1, 1, 0, 0, 1, 1, 60);
        // a to f are shared: each stands in the root and in at least one other.
        counts("120 places", Edges.places(120), 11, 11, 120, 120, 0, 6, 7, 5, 1);
        counts("node 40 in two", Edges.adding(40, "n").andThen(x -> x.cloneTo(39, 0)), 40, 40, 41, 41, 0, 1, 2, 5, 1);
        counts("120 children", Edges.manyChildren(), 40, 40, 120, 120, 0, 37, 2, 5, 1);
        counts("a shared node of the root", Edges.reading("a(b),b"), 2, 2, 3, 3, 0, 1, 2, 1, 1);
        counts("a fold that is not seen", Edges.reading("a(b(c))").andThen(x -> x.fold(1, true)).andThen(x -> x.fold(0, true)),
            3, 3, 3, 1, 2, 0, 3, 3, 1);
        counts("a fold without children",
            Edges.reading("a(b),c(a)").andThen(x -> x.fold(0, true)).andThen(x -> x.cut(3)), 2, 3, 3, 3, 1, 1, 2, 3, 1);
    }

    /** "The constants" */
    private static void constants() {
        edges.due("UNKNOWN", CloneOutline.UNKNOWN, UNKNOWN);
        edges.due("BAD_VALUE", CloneOutline.BAD_VALUE, BAD_VALUE);
        edges.due("FULL", CloneOutline.FULL, Edges.FULL);
        edges.due("NOT_POSSIBLE", CloneOutline.NOT_POSSIBLE, Edges.NOT_POSSIBLE);
        edges.due("NONE", CloneOutline.NONE, NONE);
    }
}
