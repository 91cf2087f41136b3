import java.util.ArrayList;
import java.util.List;

/** Texts of outlines, chosen by a fixed sequence of numbers, on CloneOutline and on Model: promise 14. */
public final class ReadTest {
    private static final int TEXTS = 60000;
    private static final Check check = new Check("ReadTest");
    private static long seed = 4711;

    public static void main(String[] args) {
        CloneOutline x = null;
        Model y = null;
        int read = 0;
        int full = 0;
        int calls = 512;
        for (int i = 0; i < TEXTS; i++) {
            String text = below(2) == 0 ? anyText() : likelyText();
            if (calls + text.length() + 6 > 512) {
                x = new CloneOutline();
                y = new Model();
                calls = 0;
            }
            calls += text.length() + 6;
            x.clearText();
            y.clearText();
            for (int k = 0; k < text.length(); k++) {
                x.type(text.charAt(k));
                y.type(text.charAt(k));
            }
            int due = y.readOutline();
            check.due("readOutline of " + text, x.readOutline(), due);
            for (int what = 0; what <= 3; what++) {
                int asked = new int[] {1, 2, 5, 6}[what];
                check.due("count(" + asked + ") behind " + text, x.count(asked), y.count(asked));
            }
            read += due >= 0 ? 1 : 0;
            full += due == -4 ? 1 : 0;
        }
        check.due("many are read", read > TEXTS / 20 ? 1 : 0, 1);
        check.due("some are full", full > 50 ? 1 : 0, 1);
        check.end();
    }

    private static int below(int bound) {
        seed = seed * 6364136223846793005L + 1442695040888963407L;
        return (int) ((seed >>> 33) % bound);
    }

    private static String anyText() {
        StringBuilder text = new StringBuilder();
        int length = below(12);
        for (int i = 0; i < length; i++) {
            text.append("a(b,c)d".charAt(below(7)));
        }
        return text.toString();
    }

    /** A text without a fault but for the one that cutting it short, or changing a character, may bring. */
    private static String likelyText() {
        StringBuilder text = new StringBuilder();
        List<String> open = new ArrayList<>(List.of(""));
        String letters = "";
        int made = 0;
        int deepest = 1 + below(6);
        while (text.length() + open.size() < 57) {
            String list = open.get(open.size() - 1);
            String free = "";
            for (int i = 0; i < made; i++) {
                char letter = (char) ('a' + i);
                free += list.indexOf(letter) < 0 && letters.indexOf(letter) < 0 ? letter : "";
            }
            boolean fresh = free.isEmpty() || open.size() == 1 || open.size() <= deepest && below(4) == 0;
            if (fresh && made == 26) {
                break;
            }
            char letter = fresh ? (char) ('a' + made++) : free.charAt(below(free.length()));
            open.set(open.size() - 1, list + letter);
            text.append(letter);
            if (fresh && open.size() <= deepest && below(8) > 0) {
                letters += letter;
                open.add("");
                text.append('(');
                continue;
            }
            while (open.size() > 1 && (free.length() <= 1 || below(8) == 0)) {
                letters = letters.substring(0, letters.length() - 1);
                open.remove(open.size() - 1);
                text.append(')');
            }
            text.append(',');
        }
        text.append((char) ('a' + made));
        for (; open.size() > 1; open.remove(open.size() - 1)) {
            text.append(')');
        }
        text.setLength(Math.min(text.length(), below(8) == 0 ? below(60) : 60));
        if (below(6) == 0 && text.length() > 0) {
            text.setCharAt(below(text.length()), "a(b,c)d".charAt(below(7)));
        }
        return text.toString();
    }
}
