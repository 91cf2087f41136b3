/**
 * A CloneOutline that counts its calls: nothing is promised after the 512th, so no test may need more.
 * Its other methods help to type texts and to show rows.
 */
final class Outline {
    private static final int MOST_CALLS = 512;
    private final CloneOutline outline = new CloneOutline();
    private int calls = 0;

    private CloneOutline called() {
        calls++;
        if (calls > MOST_CALLS) {
            throw new IllegalStateException("the test calls more than " + MOST_CALLS + " times");
        }
        return outline;
    }

    int left() {
        return MOST_CALLS - calls;
    }

    int add(int row) {
        return called().add(row);
    }

    int cloneTo(int row, int to) {
        return called().cloneTo(row, to);
    }

    int move(int row, int to) {
        return called().move(row, to);
    }

    int cut(int row) {
        return called().cut(row);
    }

    int shift(int row, int by) {
        return called().shift(row, by);
    }

    int edit(int row) {
        return called().edit(row);
    }

    int mark(int row, int mark) {
        return called().mark(row, mark);
    }

    int fold(int row, boolean folded) {
        return called().fold(row, folded);
    }

    int foldLevel(int level) {
        return called().foldLevel(level);
    }

    int show(int node) {
        return called().show(node);
    }

    int type(char character) {
        return called().type(character);
    }

    int clearText() {
        return called().clearText();
    }

    int readOutline() {
        return called().readOutline();
    }

    int undo() {
        return called().undo();
    }

    int keep() {
        return called().keep();
    }

    int restore() {
        return called().restore();
    }

    int row(int row, int what) {
        return called().row(row, what);
    }

    int number(int row, int level) {
        return called().number(row, level);
    }

    int charAt(int row, int index) {
        return called().charAt(row, index);
    }

    int node(int node, int what) {
        return called().node(node, what);
    }

    int nextMarked(int row, int mark) {
        return called().nextMarked(row, mark);
    }

    int find(int row) {
        return called().find(row);
    }

    int count(int what) {
        return called().count(what);
    }

    /** Types a text in place of the one that was. */
    Outline text(String text) {
        clearText();
        for (int i = 0; i < text.length(); i++) {
            type(text.charAt(i));
        }
        return this;
    }

    int read(String text) {
        return text(text).readOutline();
    }

    String textOf(int row) {
        StringBuilder text = new StringBuilder();
        for (int i = 0; i < 9; i++) {
            int code = charAt(row, i);
            if (code < 0) {
                break;
            }
            text.append((char) code);
        }
        return text.toString();
    }

    /** The rows, each as its level, its node, and "+" if it is folded: "1:1 2:2+". */
    String rows() {
        StringBuilder rows = new StringBuilder();
        int size = count(3);
        for (int row = 0; row < size; row++) {
            rows.append(row == 0 ? "" : " ").append(row(row, 1)).append(':').append(row(row, 0));
            rows.append(row(row, 4) == 1 ? "+" : "");
        }
        return rows.toString();
    }
}
