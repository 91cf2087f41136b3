import java.util.List;
import java.util.function.Consumer;
import java.util.function.Supplier;
import java.util.function.ToIntFunction;

/**
 * Checks a single call on a new object that a setup has prepared: what it answers, and what it changes.
 * Each check is made twice: with the history that the setup leaves, and with one that is full before.
 */
final class Edges {
    static final int UNKNOWN = -2;
    static final int BAD_VALUE = -3;
    static final int FULL = -4;
    static final int NOT_POSSIBLE = -5;
    static final int NONE = -6;

    /** Each letter has all that come before it as its children: 63 places of 6 nodes. */
    static final String FAN = "a,b(a),c(a,b),d(a,b,c),e(a,b,c,d),f(a,b,c,d,e)";
    static final Consumer<Outline> NOTHING = x -> { };

    private final Check check;

    Edges(String what) {
        check = new Check(what);
    }

    /** Reads an outline, and types a text in place of its own. */
    static Consumer<Outline> reading(String outline, String text) {
        return x -> {
            if (x.read(outline) < 0) {
                throw new IllegalArgumentException("no outline: " + outline);
            }
            x.text(text);
        };
    }

    static Consumer<Outline> reading(String outline) {
        return reading(outline, "n");
    }

    /** Types a text, and adds as many nodes at the top. */
    static Consumer<Outline> adding(int nodes, String text) {
        return x -> {
            x.text(text);
            for (int i = 0; i < nodes; i++) {
                x.add(-1);
            }
        };
    }

    /** Types "n", and adds nodes, each within the one before. */
    static Consumer<Outline> chain(int nodes) {
        return x -> {
            x.text("n");
            for (int i = 0; i < nodes; i++) {
                x.add(i - 1);
            }
        };
    }

    /** 63 places of the fan, 53 of g, and one for each "n" at the top: from 116 to 120 in all, as many as asked for. */
    static Consumer<Outline> places(int count) {
        return reading(FAN + ",g(c,e,f)").andThen(x -> {
            for (int i = 116; i < count; i++) {
                x.add(-1);
            }
        });
    }

    /** 37 nodes within three others each, and six of them at the top, too: 120 places, each by a pair of its own. */
    static Consumer<Outline> manyChildren() {
        return x -> {
            x.text("n");
            for (int i = 0; i < 40; i++) {
                x.add(Math.min(i - 1, 0));
            }
            x.move(1, -1);
            x.move(1, -1);
            for (int to = 38; to <= 39; to++) {
                for (int i = 0; i < 37; i++) {
                    x.cloneTo(1 + i, to + (to - 38) * 37);
                }
            }
            for (int i = 0; i < 6; i++) {
                x.cloneTo(1 + i, -1);
            }
        };
    }

    /** A node with 39 children, the only one at the top; "n" is typed. */
    static Consumer<Outline> family() {
        return adding(40, "n").andThen(x -> {
            for (int i = 1; i < 40; i++) {
                x.move(i, 0);
            }
        });
    }

    static Supplier<Outline> made(Consumer<Outline> setup) {
        return () -> {
            Outline x = new Outline();
            setup.accept(x);
            return x;
        };
    }

    /** The same state as that of a new object, but with five states in the history. */
    private static void fillHistory(Outline x) {
        x.keep();
        x.text("z");
        for (int i = 0; i < 5; i++) {
            x.readOutline();
        }
        x.restore();
        x.clearText();
    }

    private static Consumer<Outline> lateIn(Consumer<Outline> setup) {
        return x -> {
            fillHistory(x);
            setup.accept(x);
        };
    }

    void due(String what, long got, long want) {
        check.due(what, got, want);
    }

    void dueText(String what, String got, String want) {
        check.dueText(what, got, want);
    }

    void end() {
        check.end();
    }

    private void same(String what, List<String> got, List<String> want) {
        int size = Math.max(got.size(), want.size());
        for (int i = 0; i < size; i++) {
            String one = i < got.size() ? got.get(i) : "nothing";
            String other = i < want.size() ? want.get(i) : "nothing";
            if (!one.equals(other)) {
                check.dueText(what, one, other);
                return;
            }
        }
    }

    /** A call that answers this, and changes nothing at all. */
    void still(String what, Consumer<Outline> setup, ToIntFunction<Outline> call, int due) {
        stillOnce(what, setup, call, due);
        stillOnce(what + " (full history)", lateIn(setup), call, due);
    }

    /** As still(), but only with the history and the snapshot that the setup leaves. */
    void stillOnce(String what, Consumer<Outline> setup, ToIntFunction<Outline> call, int due) {
        check.due(what, call.applyAsInt(made(setup).get()), due);
        Consumer<Outline> then = x -> {
            setup.accept(x);
            call.applyAsInt(x);
        };
        same(what + " changes nothing", Picture.whole(made(then)), Picture.whole(made(setup)));
    }

    /** A call that answers this and records the state that was before it; rows are those that stand then. */
    void act(String what, Consumer<Outline> setup, ToIntFunction<Outline> call, int due, String rows) {
        actOnce(what, setup, call, due, rows);
        actOnce(what + " (full history)", lateIn(setup), call, due, rows);
    }

    private void actOnce(String what, Consumer<Outline> setup, ToIntFunction<Outline> call, int due, String rows) {
        Outline x = made(setup).get();
        int states = x.count(7);
        check.due(what, call.applyAsInt(x), due);
        check.due(what + ": states in the history", x.count(7), Math.min(states + 1, 5));
        if (rows != null) {
            check.dueText(what + ": rows", x.rows(), rows);
        }
        Consumer<Outline> then = y -> {
            setup.accept(y);
            call.applyAsInt(y);
        };
        Consumer<Outline> undone = y -> {
            then.accept(y);
            y.undo();
        };
        same(what + " is undone", Picture.state(made(undone)), Picture.state(made(setup)));
        if (states < 5) {
            same(what + " leaves earlier states", Picture.history(made(undone)), Picture.history(made(setup)));
        }
        same(what + " leaves the snapshot", Picture.snapshot(made(then)), Picture.snapshot(made(setup)));
        Outline after = made(then).get();
        Outline before = made(setup).get();
        check.due(what + " leaves the text", after.count(8), before.count(8));
        check.due(what + " leaves what is read", after.readOutline(), before.readOutline());
    }
}
