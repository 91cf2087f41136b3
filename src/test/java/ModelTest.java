/**
 * Runs of 512 calls, chosen by a fixed sequence of numbers, on CloneOutline and on Model: all answers
 * must be the same. Each kind of run has its own mix of calls, so that deep, wide and full outlines,
 * many folds and many faults come up.
 */
public final class ModelTest {
    private static final int RUNS = 300;
    private static final int CALLS = 512;
    private static final String[] SEEDS = {
        "a(b(c(d),e),f(c)),g",
        "a,b(a),c(a,b),d(a,b,c),e(a,b,c,d)",
        "a,b(a),c(a,b),d(a,b,c),e(a,b,c,d),f(a,b,c,d,e),g(b,c,d,e)",
        "a,b(a),c(a,b),d(a,b,c),e(a,b,c,d),f(a,b,c,d,e),g(d,e,f)",
        "a(b(c(d(e(f(g(h(i(j(k(l(m(n(o(p(q(r(s(t)))))))))))))))))))",
        "a(b,c,d),e(b,c,d),f(b,c,d),g(b,c,d),h(b,c,d),i(b,c,d),j(k)",
        "x"
    };

    private static final int[] FAR = {
        Integer.MIN_VALUE, Integer.MIN_VALUE + 1, -2, 119, 120, 121, Integer.MAX_VALUE - 1, Integer.MAX_VALUE
    };

    private static final Check check = new Check("ModelTest");
    private static final int[] answers = new int[7];
    private static long seed;
    private static CloneOutline x;
    private static Model y;

    public static void main(String[] args) {
        for (int run = 0; run < RUNS; run++) {
            seed = 77777L * run + 12345;
            x = new CloneOutline();
            y = new Model();
            int call = run % 3 == 0 ? 0 : typeAll(SEEDS[below(SEEDS.length)]);
            for (; call < CALLS; call++) {
                step(run, call, run % 5);
            }
        }
        String[] names = {"", "", "unknown", "bad value", "full", "not possible", "none"};
        for (int kind = 2; kind < names.length; kind++) {
            check.due("some answers are " + names[kind], answers[kind] > 200 ? 1 : 0, 1);
        }
        check.end();
    }

    private static int below(int bound) {
        seed = seed * 6364136223846793005L + 1442695040888963407L;
        return (int) ((seed >>> 33) % bound);
    }

    private static int typeAll(String text) {
        for (int i = 0; i < text.length(); i++) {
            same(-1, i, "type", x.type(text.charAt(i)), y.type(text.charAt(i)));
        }
        same(-1, text.length(), "readOutline", x.readOutline(), y.readOutline());
        return text.length() + 1;
    }

    private static void same(int run, int call, String what, int got, int want) {
        check.due("run " + run + ", call " + call + ": " + what, got, want);
        if (want <= -2 && want >= -6) {
            answers[-want]++;
        }
    }

    private static int someRow() {
        int rows = y.count(3);
        int pick = below(20);
        if (pick == 0 && below(4) == 0) {
            return FAR[below(FAR.length)];
        }
        if (pick == 0) {
            return rows + below(3);
        }
        if (pick <= 2 || rows == 0) {
            return -1 - below(10) / 9;
        }
        return below(rows);
    }

    private static int someNode() {
        return below(15) == 0 ? below(44) - 2 : 1 + below(Math.max(1, y.count(1)));
    }

    private static void step(int run, int call, int mix) {
        int kind = below(100);
        if (kind < 45) {
            ask(run, call);
        } else if (kind < 80) {
            changeNodes(run, call, mix);
        } else if (kind < 90) {
            changeFolds(run, call);
        } else {
            changeRest(run, call, mix);
        }
    }

    private static void changeNodes(int run, int call, int mix) {
        int row = someRow();
        int to = someRow();
        int kind = below(12);
        if (mix == 1 && kind >= 10) {
            kind = 0;
        }
        if (mix == 2 && kind == 10) {
            kind = 4;
        }
        if (kind <= 2) {
            same(run, call, "add(" + row + ")", x.add(row), y.add(row));
        } else if (kind <= 4) {
            same(run, call, "cloneTo(" + row + ", " + to + ")", x.cloneTo(row, to), y.cloneTo(row, to));
        } else if (kind <= 6) {
            same(run, call, "move(" + row + ", " + to + ")", x.move(row, to), y.move(row, to));
        } else if (kind == 7) {
            int by = below(10) == 0 ? below(90) - 45 : below(9) - 4;
            same(run, call, "shift(" + row + ", " + by + ")", x.shift(row, by), y.shift(row, by));
        } else if (kind == 8) {
            same(run, call, "edit(" + row + ")", x.edit(row), y.edit(row));
        } else if (kind == 9) {
            int mark = below(7) - 1;
            same(run, call, "mark(" + row + ", " + mark + ")", x.mark(row, mark), y.mark(row, mark));
        } else {
            same(run, call, "cut(" + row + ")", x.cut(row), y.cut(row));
        }
    }

    private static void changeFolds(int run, int call) {
        int kind = below(10);
        if (kind <= 5) {
            int row = someRow();
            boolean folded = below(3) > 0;
            same(run, call, "fold(" + row + ", " + folded + ")", x.fold(row, folded), y.fold(row, folded));
        } else if (kind == 6) {
            int level = below(4) == 0 ? below(46) - 2 : 1 + below(4);
            same(run, call, "foldLevel(" + level + ")", x.foldLevel(level), y.foldLevel(level));
        } else {
            int node = someNode();
            same(run, call, "show(" + node + ")", x.show(node), y.show(node));
        }
    }

    private static void changeRest(int run, int call, int mix) {
        int kind = below(20);
        if (kind <= 7) {
            char character = mix == 3 ? "a(b,c)d"
                .charAt(below(7)) : (char) ('a' + below(3));
            same(run, call, "type(" + character + ")", x.type(character), y.type(character));
        } else if (kind <= 9) {
            same(run, call, "clearText", x.clearText(), y.clearText());
        } else if (kind == 10) {
            same(run, call, "readOutline", x.readOutline(), y.readOutline());
        } else if (kind <= 15) {
            same(run, call, "undo", x.undo(), y.undo());
        } else if (kind <= 17) {
            same(run, call, "keep", x.keep(), y.keep());
        } else {
            same(run, call, "restore", x.restore(), y.restore());
        }
    }

    private static void ask(int run, int call) {
        int row = someRow();
        int node = someNode();
        int what = below(40) == 0 ? FAR[below(FAR.length)] : below(11) - 1;
        switch (below(9)) {
            case 0, 1 -> same(run, call, "row(" + row + ", " + what + ")", x.row(row, what), y.row(row, what));
            case 2 -> same(run, call, "number(" + row + ", " + what + ")", x.number(row, what), y.number(row, what));
            case 3 -> same(run, call, "charAt(" + row + ", " + what + ")", x.charAt(row, what), y.charAt(row, what));
            case 4, 5 -> same(run, call, "node(" + node + ", " + what + ")", x.node(node, what), y.node(node, what));
            case 6 -> {
                int mark = below(7) - 1;
                same(run, call, "nextMarked(" + row + ", " + mark + ")", x.nextMarked(row, mark), y.nextMarked(row, mark));
            }
            case 7 -> same(run, call, "find(" + row + ")", x.find(row), y.find(row));
            default -> same(run, call, "count(" + what + ")", x.count(what), y.count(what));
        }
    }
}
