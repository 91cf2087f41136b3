import java.util.LinkedHashMap;
import java.util.List;
import java.util.Map;
import java.util.function.Consumer;
import java.util.function.Supplier;
import java.util.function.ToIntFunction;

/** Each sentence of "Texts" and "History", and of the promises 14 to 17, that names a boundary. */
public final class HistoryEdgesTest {
    private static final int FULL = Edges.FULL;
    private static final int NONE = Edges.NONE;
    private static final Edges edges = new Edges("HistoryEdgesTest");

    public static void main(String[] args) {
        letters();
        lists();
        clones();
        openLists();
        sameLists();
        endsTooEarly();
        firstFault();
        readAnew();
        readFull();
        mostStates();
        oldestIsDropped();
        actsAreRecorded();
        othersAreNotRecorded();
        undoBringsAll();
        undoLeavesTextAndSnapshot();
        snapshotIsEmptyAtFirst();
        snapshotIsReplaced();
        snapshotStays();
        restoreIsAnAct();
        edges.end();
    }

    private static Outline x(Consumer<Outline> setup) {
        return Edges.made(setup).get();
    }

    private static void fault(String text, int index) {
        edges.still("14: fault of \"" + text + "\"", Edges.reading("a(b,c),d", text), Outline::readOutline, -100 - index);
    }

    private static void reads(String text, int places, String rows) {
        edges.act("14: reading \"" + text + "\"", Edges.reading("a(b),c").andThen(x -> x.text(text)), Outline::readOutline, places, rows);
    }

    /** "An item is a letter from a to z"; "A letter that has not stood before makes a new node, with this letter as its text" */
    private static void letters() {
        reads("a", 1, "1:1");
        reads("z", 1, "1:1");
        reads("z,a", 2, "1:1 1:2");
        edges.dueText("14: the letter z", x(Edges.reading("z,a")).textOf(0), "z");
        edges.dueText("14: the letter a", x(Edges.reading("z,a")).textOf(1), "a");
        for (char one : new char[] {'`', '{', 'A', 'Z', '0', ' ', '.', 0, 127, 225, 255}) {
            fault(String.valueOf(one), 0);
            fault("a" + one, 1);
            fault("a," + one, 2);
            fault("a(" + one, 2);
        }
        edges.still("14: a letter beyond 255", Edges.reading("a", "").andThen(x -> x.type((char) (256 + 'a'))), Outline::readOutline, -100);
        edges.still("14: a letter of 65535", Edges.reading("a", "").andThen(x -> x.type((char) 65535)), Outline::readOutline, -100);
        reads("a,b,c,d,e,f,g,h,i,j,k,l,m,n,o,p,q,r,s,t,u,v,w,x,y,z(a,b,c,d)", 30, null);
    }

    /** "a list: one or more items with ',' between two"; "perhaps followed by '(', a list, and ')'" */
    private static void lists() {
        reads("a,b", 2, "1:1 1:2");
        reads("a(b)", 2, "1:1 2:2");
        reads("a(b,c)", 3, "1:1 2:2 2:3");
        reads("a(b(c),d),e", 5, "1:1 2:2 3:3 2:4 1:5");
        fault(",", 0);
        fault("a,,b", 2);
        fault("(a)", 0);
        fault(")", 0);
        fault("a()", 2);
        fault("a(,b)", 2);
        fault("a(b,)", 4);
        fault("a((b))", 2);
        fault("a)", 1);
        fault("a(b))", 4);
        fault("a(b)(c)", 4);
        fault("a(b)c", 4);
        fault("ab", 1);
        fault("a,(b)", 2);
        fault("a(b)),c", 4);
    }

    /** "A letter that has stood before is a clone of its node; it cannot be followed by '('." */
    private static void clones() {
        reads("a(b),c(b)", 4, "1:1 2:2 1:3 2:2");
        reads("a(b(c)),b", 5, "1:1 2:2 3:3 1:2 2:3");
        reads("b,a(b)", 3, "1:1 1:2 2:1");
        reads("a(b,c(b))", 4, "1:1 2:2 2:3 3:2");
        fault("a(b),b(c)", 6);
        fault("a(b(c)),b(d)", 9);
        fault("b,a(b(c))", 5);
        fault("a(b),c(b(", 8);
        edges.due("14: a clone makes no node", x(Edges.reading("a(b),c(b)")).count(1), 3);
        edges.due("14: a clone has two parents", x(Edges.reading("a(b),c(b)")).node(2, 0), 2);
    }

    /** "A letter is not allowed if its list is still open there" */
    private static void openLists() {
        fault("a(a", 2);
        fault("a(b(a", 4);
        fault("a(b(b", 4);
        fault("a(b(c(d(a", 8);
        fault("a(b,c(b,a", 8);
        fault("a(b(c),a", 7);
        reads("a(b),c(a)", 5, "1:1 2:2 1:3 2:1 3:2");
        reads("a(b(c),d(b))", 6, "1:1 2:2 3:3 2:4 3:2 4:3");
        reads("a(b),c(d(a))", 6, "1:1 2:2 1:3 2:4 3:1 4:2");
    }

    /** "or if it stood in the same list before" */
    private static void sameLists() {
        fault("a,a", 2);
        fault("a(b),a", 5);
        fault("a,b,c,a", 6);
        fault("a(b,b)", 4);
        fault("a(b(c),d,b)", 9);
        fault("a(b,c(d),b)", 9);
        fault("a(b),c(b,b)", 9);
        reads("a(b),b", 3, "1:1 2:2 1:2");
        reads("a(b(c),c)", 4, "1:1 2:2 3:3 2:3");
        reads("a(b),c(b),b", 5, "1:1 2:2 1:3 2:2 1:2");
    }

    /** "or the length of the text if it ends too early (the empty text does)" */
    private static void endsTooEarly() {
        fault("", 0);
        fault("a,", 2);
        fault("a(", 2);
        fault("a(b", 3);
        fault("a(b,", 4);
        fault("a(b(c)", 6);
        fault("a(b(c),", 7);
        fault("a(b),", 5);
        fault("a,b,c,d,e,f,g,h,i,j,k,l,m,n,o,p,q,r,s,t,u,v,w,x,y,z(a,b,c,d,", 60);
        fault("a,b,c,d,e,f,g,h,i,j,k,l,m,n,o,p,q,r,s,t,u,v,w,x,y,z(a,b,c,de", 59);
        fault("a,b,c,d,e,f,g,h,i,j,k,l,m,n,o,p,q,r,s,t,u,v,w,x,y,z(a,b,c,a)", 58);
        edges.still("14: a new object has no text", Edges.NOTHING, Outline::readOutline, -100);
    }

    /** "the index, from 0, of the first character that is not allowed" */
    private static void firstFault() {
        fault("A,B", 0);
        fault("a,A,B", 2);
        fault("a(a,b,b", 2);
        fault("a,a)", 2);
        fault("a)a", 1);
        fault("aaa", 1);
        fault("a(b,b", 4);
    }

    /** Promise 14: "numbered from 1 in the order in which their letters stand first, without marks, and nothing is folded" */
    private static void readAnew() {
        reads("c(b(a),d),b", 6, "1:1 2:2 3:3 2:4 1:2 2:3");
        Consumer<Outline> setup = Edges.reading("a(b(c)),d").andThen(x -> {
            x.mark(0, 0);
            x.mark(1, 4);
            x.fold(1, true);
            x.fold(0, true);
            x.text("a(b(c)),d");
        });
        edges.act("14: the same again", setup, Outline::readOutline, 4, "1:1 2:2 3:3 1:4");
        Outline x = x(setup.andThen(Outline::readOutline));
        edges.due("14: nothing folded", x.count(4), 0);
        edges.due("14: no marks", x.row(0, 5) + x.row(1, 5) + x.row(2, 5) + x.row(3, 5), 0);
        edges.due("14: the text stays", x.count(8), 9);
        edges.due("14: and can be read again", x.readOutline(), 4);
        edges.due("14: the nodes that were are none", x(Edges.adding(40, "a").andThen(Outline::readOutline)).node(2, 0), Edges.UNKNOWN);
        edges.due("14: nodes made", x(Edges.adding(40, "a").andThen(Outline::readOutline)).count(1), 1);
        Consumer<Outline> long8 = Edges.reading("a", "12345678").andThen(y -> y.edit(0)).andThen(y -> y.read("b"));
        edges.dueText("14: the text of a node is its letter", x(long8).textOf(0), "b");
    }

    /** Promise 14: "FULL if there would be more than 120 places" */
    private static void readFull() {
        Consumer<Outline> setup = Edges.reading("a(b)").andThen(x -> x.fold(0, true));
        edges.act("14: 119", setup.andThen(x -> x.text(Edges.FAN + ",g(a,b,c,e,f)")), Outline::readOutline, 119, null);
        edges.act("14: 120", setup.andThen(x -> x.text(Edges.FAN + ",g(d,e,f)")), Outline::readOutline, 120, null);
        edges.still("14: 121", setup.andThen(x -> x.text(Edges.FAN + ",g(a,d,e,f)")), Outline::readOutline, FULL);
        edges.still("14: 121 by the top", setup.andThen(x -> x.text(Edges.FAN + ",g(d,e,f),h")), Outline::readOutline, FULL);
        edges.still("14: many", setup.andThen(x -> x.text(Edges.FAN + ",g(e,f),h(f,g)")), Outline::readOutline, FULL);
        edges.still("14: a fault before FULL", setup.andThen(x -> x.text(Edges.FAN + ",g(a,d,e,f")), Outline::readOutline, -156);
        edges.still("14: a fault behind before FULL", setup.andThen(x -> x.text(Edges.FAN + ",g(d,e,f),h,h")), Outline::readOutline, -158);
    }

    /** "A history of at most 5 states is kept"; promise 15: "the number of states that are left; NONE if the history is empty" */
    private static void mostStates() {
        edges.stillOnce("15: no history", Edges.NOTHING, Outline::undo, NONE);
        for (int acts = 1; acts <= 7; acts++) {
            Outline x = x(Edges.adding(acts, "n"));
            int states = Math.min(acts, 5);
            edges.due("15: states after " + acts + " acts", x.count(7), states);
            for (int left = states - 1; left >= 0; left--) {
                edges.due("15: left", x.undo(), left);
                edges.due("15: counted", x.count(7), left);
                edges.due("15: nodes then", x.count(0), acts - states + left);
            }
            edges.due("15: none left", x.undo(), NONE);
            edges.due("15: none left again", x.undo(), NONE);
            edges.due("15: nodes stay", x.count(0), acts - states);
        }
        edges.stillOnce("15: an empty history", Edges.adding(1, "n").andThen(Outline::undo), Outline::undo, NONE);
    }

    /** "when one more is recorded, the oldest one is dropped; undo() removes and restores the latest one" */
    private static void oldestIsDropped() {
        for (int acts = 4; acts <= 12; acts++) {
            Supplier<Outline> before = Edges.made(Edges.adding(acts, "n"));
            List<String> due = Picture.state(before);
            Supplier<Outline> then = Edges.made(Edges.adding(acts + 5, "n").andThen(x -> {
                for (int i = 0; i < 5; i++) {
                    x.undo();
                }
            }));
            edges.dueText("15: five acts undone, after " + acts, Picture.state(then).toString(), due.toString());
            edges.due("15: and no more", then.get().undo(), NONE);
        }
        // Some are undone before the next are recorded.
        Outline x = x(Edges.adding(6, "n"));
        edges.due("15: left", x.undo() + x.undo() + x.undo(), 4 + 3 + 2);
        edges.due("15: other nodes", x.add(0) + x.add(0) + x.add(0), 4 + 5 + 6);
        edges.due("15: five again", x.count(7), 5);
        edges.due("15: one more", x.add(0), 7);
        edges.dueText("15: rows", x.rows(), "1:1 2:4 2:5 2:6 2:7 1:2 1:3");
        edges.due("15: left then", x.undo() + x.undo() + x.undo() + x.undo(), 4 + 3 + 2 + 1);
        edges.dueText("15: what was undone is gone", x.rows(), "1:1 1:2 1:3");
        edges.due("15: the last", x.undo(), 0);
        edges.dueText("15: the oldest", x.rows(), "1:1 1:2");
        edges.due("15: dropped", x.undo(), NONE);
    }

    /** A row 0 with a child, a row 2 that is folded, a snapshot, and "n" typed. */
    private static Consumer<Outline> sample() {
        return Edges.reading("a(b),c(d),e", "x").andThen(x -> {
            x.fold(2, true);
            x.keep();
        });
    }

    private static Map<String, ToIntFunction<Outline>> acts() {
        Map<String, ToIntFunction<Outline>> acts = new LinkedHashMap<>();
        acts.put("add", x -> x.add(0));
        acts.put("cloneTo", x -> x.cloneTo(0, 3));
        acts.put("move", x -> x.move(0, 3));
        acts.put("cut", x -> x.cut(0));
        acts.put("shift", x -> x.shift(0, 1));
        acts.put("edit", x -> x.edit(0));
        acts.put("mark", x -> x.mark(0, 0));
        acts.put("fold", x -> x.fold(0, true));
        acts.put("unfold", x -> x.fold(2, false));
        acts.put("foldLevel", x -> x.foldLevel(1));
        acts.put("show", x -> x.show(4));
        acts.put("readOutline", Outline::readOutline);
        acts.put("restore", Outline::restore);
        return acts;
    }

    /** "Each call of a method that is described as an act, and returns no error and not NONE, records the state" */
    private static void actsAreRecorded() {
        acts().forEach((name, act) -> {
            edges.act("history: " + name, sample(), act, act.applyAsInt(x(sample())), null);
            Consumer<Outline> twice = sample().andThen(act::applyAsInt).andThen(x -> x.mark(0, 4)).andThen(Outline::undo);
            Consumer<Outline> once = sample().andThen(act::applyAsInt);
            edges.dueText("history: undone to what stands after " + name,
                Picture.whole(Edges.made(twice)).toString(), Picture.whole(Edges.made(once)).toString());
        });
    }

    /** No other call is an act, nor is one that returns an error or NONE. */
    private static void othersAreNotRecorded() {
        Map<String, ToIntFunction<Outline>> calls = new LinkedHashMap<>();
        calls.put("type", x -> x.type('a'));
        calls.put("clearText", Outline::clearText);
        calls.put("keep", Outline::keep);
        calls.put("row", x -> x.row(0, 0));
        calls.put("number", x -> x.number(0, 1));
        calls.put("charAt", x -> x.charAt(0, 0));
        calls.put("node", x -> x.node(1, 0));
        calls.put("nextMarked", x -> x.nextMarked(0, 0));
        calls.put("find", x -> x.find(-1));
        calls.put("count", x -> x.count(0));
        calls.put("NONE of edit", x -> x.text("a").edit(0));
        calls.put("NONE of fold", x -> x.fold(0, false));
        calls.put("NONE of foldLevel", x -> x.foldLevel(40) + x.foldLevel(40));
        calls.put("NONE of show", x -> x.show(1));
        calls.put("an error of add", x -> x.add(9));
        calls.put("an error of readOutline", x -> x.read("a,"));
        calls.forEach((name, call) -> {
            Outline x = x(sample());
            int states = x.count(7) + (name.equals("NONE of foldLevel") ? 1 : 0);
            call.applyAsInt(x);
            edges.due("history: " + name + " is not recorded", x.count(7), states);
        });
        edges.due("history: undo is not recorded", x(sample().andThen(Outline::undo)).count(7), 1);
        edges.stillOnce("history: NONE of restore", Edges.adding(3, "n"), Outline::restore, NONE);
    }

    /** "A state is everything but the text, the history and the snapshot." */
    private static void undoBringsAll() {
        Consumer<Outline> setup = Edges.reading("a(b),c(a)", "eight888").andThen(x -> {
            x.edit(1);
            x.mark(0, 3);
            x.fold(3, true);
        });
        List<String> due = Picture.state(Edges.made(setup));
        Consumer<Outline> more = setup.andThen(x -> {
            x.mark(0, 3);
            x.text("n").edit(1);
            x.fold(3, false);
            x.cut(2);
            x.add(0);
        });
        Consumer<Outline> undone = more.andThen(x -> {
            for (int i = 0; i < 5; i++) {
                x.undo();
            }
        });
        edges.dueText("15: all five undone", Picture.state(Edges.made(undone)).toString(), due.toString());
        edges.due("15: none is left", x(undone).count(7), 0);
    }

    /** The same, for what is no part of it. */
    private static void undoLeavesTextAndSnapshot() {
        Consumer<Outline> setup = Edges.reading("a,b", "one").andThen(x -> {
            x.edit(0);
            x.keep();
            x.text("three");
            x.edit(0);
            x.text("two");
        });
        Outline x = x(setup);
        edges.due("15: left", x.undo(), 2);
        edges.due("15: the text stays", x.count(8), 3);
        edges.dueText("15: the node has its text again", x.textOf(0), "one");
        edges.due("15: left then", x.undo(), 1);
        edges.dueText("15: and its first one", x.textOf(0), "a");
        edges.due("15: the snapshot stays", x.restore(), 2);
        edges.dueText("15: as it was", x.textOf(0), "one");
        edges.due("15: the text is given", x.edit(1), 1);
        edges.dueText("15: as it was typed", x.textOf(1), "two");
        Outline none = new Outline();
        none.text("n").add(-1);
        none.undo();
        edges.due("15: undo makes no snapshot", none.restore(), NONE);
        Outline late = x(Edges.adding(2, "n").andThen(Outline::keep).andThen(Outline::undo).andThen(Outline::undo));
        edges.due("15: a snapshot outlives the states", late.restore(), 2);
    }

    /** "There is one snapshot, empty at first."; promise 17: "NONE if there is no snapshot" */
    private static void snapshotIsEmptyAtFirst() {
        edges.stillOnce("17: a new object", Edges.NOTHING, Outline::restore, NONE);
        edges.stillOnce("17: after acts", Edges.reading("a(b)"), Outline::restore, NONE);
        edges.stillOnce("17: with a full history", Edges.adding(7, "n"), Outline::restore, NONE);
        Outline x = new Outline();
        edges.due("16: an empty outline is a state", x.keep(), 0);
        edges.due("16: no act", x.count(7), 0);
        edges.due("17: it is a snapshot", x.restore(), 0);
        edges.due("17: an act", x.count(7), 1);
    }

    /** Promise 16: "Takes a snapshot of the state, in place of the one that was. Returns the number of rows." */
    private static void snapshotIsReplaced() {
        Outline x = x(Edges.reading("a(b),c"));
        edges.due("16: rows", x.keep(), 3);
        x.fold(0, true);
        edges.due("16: rows that are seen", x.keep(), 2);
        x.add(-1);
        edges.due("17: the later one", x.restore(), 2);
        edges.dueText("17: with its folds", x.rows(), "1:1+ 1:3");
        x.cut(0);
        x.cut(0);
        edges.due("16: none", x.keep(), 0);
        x.add(-1);
        edges.due("17: the empty one", x.restore(), 0);
        edges.due("17: with its numbers", x.count(1), 3);
        edges.due("16: 120 rows", x(Edges.places(120)).keep(), 120);
        Supplier<Outline> kept = Edges.made(sample());
        Supplier<Outline> twice = Edges.made(sample().andThen(Outline::keep));
        edges.dueText("16: again changes nothing", Picture.whole(twice).toString(), Picture.whole(kept).toString());
        Supplier<Outline> before = Edges.made(Edges.reading("a(b),c"));
        Supplier<Outline> then = Edges.made(Edges.reading("a(b),c").andThen(Outline::keep));
        edges.dueText("16: the state stays", Picture.state(then).toString(), Picture.state(before).toString());
        edges.dueText("16: the history stays", Picture.history(then).toString(), Picture.history(before).toString());
        edges.dueText("16: the text stays", Picture.text(then).toString(), Picture.text(before).toString());
    }

    /** Promise 17: "Restores the state of the snapshot, which stays." */
    private static void snapshotStays() {
        Consumer<Outline> setup = Edges.reading("a(b),c(a)", "eight888").andThen(x -> {
            x.edit(1);
            x.mark(0, 3);
            x.fold(3, true);
        });
        List<String> due = Picture.state(Edges.made(setup));
        Consumer<Outline> then = setup.andThen(Outline::keep).andThen(x -> {
            x.mark(0, 2);
            x.text("n").edit(1);
            x.fold(3, false);
            x.cut(2);
            x.add(0);
            x.restore();
        });
        edges.dueText("17: all is restored", Picture.state(Edges.made(then)).toString(), due.toString());
        Consumer<Outline> again = then.andThen(x -> x.mark(1, 0)).andThen(x -> x.cut(1)).andThen(Outline::restore);
        edges.dueText("17: and again", Picture.state(Edges.made(again)).toString(), due.toString());
        Consumer<Outline> undone = then.andThen(Outline::undo).andThen(Outline::restore);
        edges.dueText("17: and after an undo", Picture.state(Edges.made(undone)).toString(), due.toString());
        Consumer<Outline> read = then.andThen(x -> x.read("z")).andThen(Outline::restore);
        edges.dueText("17: and after reading", Picture.state(Edges.made(read)).toString(), due.toString());
        edges.due("17: the text stays", x(read).count(8), 1);
    }

    /** Promise 17: "This is an act. Returns the number of rows then" */
    private static void restoreIsAnAct() {
        Consumer<Outline> setup = Edges.reading("a(b),c").andThen(x -> x.fold(0, true)).andThen(Outline::keep);
        Consumer<Outline> changed = setup.andThen(x -> x.fold(0, false)).andThen(x -> x.add(-1));
        edges.act("17: to another state", changed, Outline::restore, 2, "1:1+ 1:3");
        edges.act("17: to the same state", setup, Outline::restore, 2, "1:1+ 1:3");
        edges.act("17: twice", changed.andThen(Outline::restore), Outline::restore, 2, "1:1+ 1:3");
        edges.due("17: numbers go on", x(changed.andThen(Outline::restore)).add(-1), 4);
    }
}
