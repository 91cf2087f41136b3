import java.util.ArrayList;
import java.util.List;
import java.util.function.Supplier;

/**
 * All that calls can tell of an object: of its state, of each state in its history, of its snapshot and
 * of its text, a line for each answer. The object is made anew whenever its 512 calls are used up.
 */
final class Picture {
    private static final int NONE = -6;
    private final Supplier<Outline> maker;
    private final List<String> lines = new ArrayList<>();
    private Outline x;

    private Picture(Supplier<Outline> maker) {
        this.maker = maker;
        this.x = maker.get();
    }

    /** What is told of the state alone: not of the history, the snapshot and the text. */
    static List<String> state(Supplier<Outline> maker) {
        Picture picture = new Picture(maker);
        picture.counts();
        picture.rows();
        picture.nodes();
        picture.places();
        return picture.lines;
    }

    static List<String> history(Supplier<Outline> maker) {
        List<String> lines = new ArrayList<>();
        int states = maker.get().count(7);
        lines.add("count(7): " + states);
        for (int undos = 1; undos <= states; undos++) {
            int times = undos;
            lines.add(undos + " undos: " + undone(maker, times).count(7));
            for (String line : state(() -> undone(maker, times))) {
                lines.add("after " + undos + " undos, " + line);
            }
        }
        lines.add("the last undo: " + undone(maker, states).undo());
        return lines;
    }

    private static Outline undone(Supplier<Outline> maker, int times) {
        Outline x = maker.get();
        for (int i = 0; i < times; i++) {
            x.undo();
        }
        return x;
    }

    static List<String> snapshot(Supplier<Outline> maker) {
        List<String> lines = new ArrayList<>();
        int restored = maker.get().restore();
        lines.add("restore: " + restored);
        if (restored != NONE) {
            for (String line : state(() -> restored(maker))) {
                lines.add("restored, " + line);
            }
        }
        return lines;
    }

    private static Outline restored(Supplier<Outline> maker) {
        Outline x = maker.get();
        x.restore();
        return x;
    }

    /** The text shows itself only where it is used: given to a node, or read. */
    static List<String> text(Supplier<Outline> maker) {
        List<String> lines = new ArrayList<>();
        lines.add("count(8): " + maker.get().count(8));
        lines.add("readOutline: " + maker.get().readOutline());
        Outline x = maker.get();
        int given = x.count(3) > 0 ? x.edit(0) : x.add(-1);
        lines.add("text: " + (given < 0 && given != NONE ? String.valueOf(given) : x.textOf(0)));
        return lines;
    }

    static List<String> whole(Supplier<Outline> maker) {
        List<String> lines = new ArrayList<>(state(maker));
        lines.addAll(history(maker));
        lines.addAll(snapshot(maker));
        lines.addAll(text(maker));
        return lines;
    }

    private Outline ready() {
        if (x.left() < 2) {
            x = maker.get();
        }
        return x;
    }

    private void counts() {
        for (int what = 0; what <= 6; what++) {
            lines.add("count(" + what + "): " + ready().count(what));
        }
    }

    private void rows() {
        int rows = ready().count(3);
        for (int row = 0; row < rows; row++) {
            for (int what = 0; what <= 8; what++) {
                lines.add("row(" + row + ", " + what + "): " + ready().row(row, what));
            }
            int level = ready().row(row, 1);
            for (int at = 1; at <= level; at++) {
                lines.add("number(" + row + ", " + at + "): " + ready().number(row, at));
            }
            int length = ready().node(ready().row(row, 0), 6);
            for (int i = 0; i < length; i++) {
                lines.add("charAt(" + row + ", " + i + "): " + ready().charAt(row, i));
            }
        }
        for (int mark = 0; mark <= 4; mark++) {
            lines.add("nextMarked(-1, " + mark + "): " + ready().nextMarked(-1, mark));
        }
    }

    private void nodes() {
        int made = ready().count(1);
        for (int node = 1; node <= made; node++) {
            for (int what = 0; what <= 7; what++) {
                lines.add("node(" + node + ", " + what + "): " + ready().node(node, what));
            }
        }
    }

    /** Opens each folded row that can be opened, so that also the folds of places that are not seen are told. */
    private void places() {
        x = maker.get();
        int rows = x.count(3);
        for (int row = 0; row < rows; row++) {
            boolean folded = x.row(row, 4) == 1;
            lines.add("place " + row + ": " + x.row(row, 0) + (folded ? "+" : ""));
            if (folded) {
                rows = Math.max(x.fold(row, false), rows);
            }
        }
    }
}
