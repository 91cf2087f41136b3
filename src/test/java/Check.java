/** Counts the answers that are not due, and helps to make outlines. */
final class Check {
    private final String what;
    private int wrong = 0;

    Check(String what) {
        this.what = what;
    }

    void due(String call, long got, long want) {
        if (got != want) {
            wrong++;
            System.out.println(what + ": " + call + " answered " + got + ", due is " + want);
        }
    }

    void end() {
        System.out.println(what + ": " + (wrong == 0 ? "all answers are as due" : wrong + " answers are not as due"));
        if (wrong != 0) {
            System.exit(1);
        }
    }

    static void text(CloneOutline x, String text) {
        x.clearText();
        for (int i = 0; i < text.length(); i++) {
            x.type(text.charAt(i));
        }
    }

    /** What readOutline() answers to a text. */
    static int read(CloneOutline x, String text) {
        text(x, text);
        return x.readOutline();
    }

    /** A new object with the outline of a text. */
    static CloneOutline outline(String text) {
        CloneOutline x = new CloneOutline();
        if (read(x, text) < 0) {
            throw new IllegalArgumentException("no outline: " + text);
        }
        return x;
    }

    static int add(CloneOutline x, int row, String text) {
        text(x, text);
        return x.add(row);
    }

    static String textOf(CloneOutline x, int row) {
        StringBuilder text = new StringBuilder();
        for (int i = 0; x.charAt(row, i) >= 0; i++) {
            text.append((char) x.charAt(row, i));
        }
        return text.toString();
    }

    /** The rows, each as its level, its node, and "+" if it is folded: "1:1 2:2+". */
    static String rows(CloneOutline x) {
        StringBuilder rows = new StringBuilder();
        for (int row = 0; row < x.count(3); row++) {
            rows.append(row == 0 ? "" : " ").append(x.row(row, 1)).append(':').append(x.row(row, 0));
            rows.append(x.row(row, 4) == 1 ? "+" : "");
        }
        return rows.toString();
    }

    void dueText(String call, String got, String want) {
        if (!got.equals(want)) {
            wrong++;
            System.out.println(what + ": " + call + " answered \"" + got + "\", due is \"" + want + "\"");
        }
    }
}
