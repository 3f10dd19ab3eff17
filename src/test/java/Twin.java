import java.util.ArrayList;
import java.util.List;
import java.util.function.Consumer;
import java.util.function.ToIntFunction;

/**
 * Two objects that went the same way: behind a call that leaves all as it was, the one must go on just as the
 * other, which was not called. An object of a way and all that is asked of it here has fewer than 512 calls.
 */
final class Twin {
    private Twin() {
    }

    /** The call answers what is due, and nothing that can be seen afterwards is another than without it. */
    static void dueNothing(String what, Consumer<BallotFruit> way, ToIntFunction<BallotFruit> call, int answer) {
        BallotFruit x = new BallotFruit();
        BallotFruit y = new BallotFruit();
        way.accept(x);
        way.accept(y);
        Check.due(what, call.applyAsInt(x), answer);
        dueSame(what, x, y, true);
    }

    /** A TEXT that is refused: the TAPE is empty behind it, fault() tells of it, and nothing else is another. */
    static void dueFault(String what, Consumer<BallotFruit> way, int k, String text, int fault, int place) {
        BallotFruit x = new BallotFruit();
        BallotFruit y = new BallotFruit();
        way.accept(x);
        way.accept(y);
        Check.dueText(x, k, text, -1, fault, place);
        y.end(0);
        dueSame(what, x, y, false);
    }

    private static void dueSame(String what, BallotFruit x, BallotFruit y, boolean faultToo) {
        List<String> got = seen(x, faultToo);
        List<String> want = seen(y, faultToo);
        String other = "";
        for (int i = 0; i < want.size() && other.isEmpty(); i++) {
            if (!got.get(i).equals(want.get(i))) {
                other = got.get(i) + " instead of " + want.get(i);
            }
        }
        Check.due(what + " leaves all as it was; " + other, other.isEmpty(), true);
    }

    static void empty(BallotFruit x) {
    }

    /** Two of each, something of all that can be told, four things to be undone, a FAULT, and a TAPE of 7 bytes. */
    static void some(BallotFruit x) {
        x.party(7);
        x.party(3);
        x.eater(4);
        x.eater(6);
        x.plant(0, 2, 40);
        x.plant(1, 5, 60);
        x.taste(1, 0, 8);
        x.set(0, 0, 300);
        x.set(1, 0, 400);
        x.set(2, 0, 11);
        x.set(3, 0, 3);
        x.state(12345);
        Check.tell(x, 1, "eater 0 by 2 5; eater 1 by 5;");
        Check.tell(x, 2, "on 5 fence 2; on 6 plant 1 at 5;");
        x.image(true);
        x.core(0, 5);
        Check.tell(x, 0, "bear age/6; count 2 when jam=1;");
        x.weeks(2);
        x.fence(7, true);
        x.boil(0, 2);
        Check.tell(x, 0, "want 1/0;");
        Check.put(x, "bear 3;");
    }

    /** As many of each as there may be, six things to be undone, eight CORES, and a TAPE of 400 bytes. */
    static void full(BallotFruit x) {
        for (int p = 0; p < 5; p++) {
            x.party(p);
        }
        for (int e = 0; e < 10; e++) {
            x.eater(2 * e);
        }
        for (int t = 0; t < 14; t++) {
            x.plant(t % 5, t % 10, 7 * t);
        }
        Check.tell(x, 1, "eater 9 by 9 8 7 6 5 4 3 2;" + "eater 0 by 0;".repeat(15));
        Check.tell(x, 2, "on 0 open 0;".repeat(15) + "on 2 fence 3;");
        Check.tell(x, 0, "bear 3;" + "want 9;".repeat(15));
        x.state(-5);
        x.image(true);
        for (int i = 0; i < 8; i++) {
            x.core(i % 5, 9 - i);
        }
        x.weeks(4);
        x.fence(9, true);
        x.boil(4, 3);
        for (int i = 0; i < 20; i++) {
            x.feed(0x62656172, 0x20202020, 0x20202020, 0x20202020, 0x2020203B);
        }
    }

    /** What can be seen, and at last what comes of the TAPE, of undoing and of going back to THE IMAGE. */
    private static List<String> seen(BallotFruit x, boolean faultToo) {
        List<String> s = new ArrayList<>();
        if (faultToo) {
            add(s, "fault", x.fault(0));
            add(s, "fault's place", x.fault(1));
        }
        int lines = looks(s, x);
        for (int p = 0; p < 5; p++) {
            for (int what = 0; what < 4; what++) {
                add(s, "of " + p + " " + what, x.of(p, what));
            }
        }
        for (int t = 0; t < 14; t++) {
            for (int what = 0; what < 5; what++) {
                add(s, "tree " + t + " " + what, x.tree(t, what));
            }
        }
        eaters(s, x);
        for (int i = Math.max(0, lines - 6); i < lines; i++) {
            for (int what = 0; what < 4; what++) {
                add(s, "book " + i + " " + what, x.book(i, what));
            }
        }
        add(s, "whose", x.whose(0));
        add(s, "feeds", x.feeds(1));
        add(s, "rules", x.rules(1));
        add(s, "goes", x.goes(9, 0, 1));
        tape(s, x);
        past(s, x);
        return s;
    }

    private static int looks(List<String> s, BallotFruit x) {
        for (int what = 0; what < 16; what++) {
            add(s, "look " + what, x.look(what));
        }
        return x.look(8);
    }

    private static void eaters(List<String> s, BallotFruit x) {
        for (int e = 0; e < 10; e++) {
            int steps = x.who(e, 2);
            add(s, "hunger " + e, x.who(e, 0));
            add(s, "want " + e, x.who(e, 1));
            add(s, "steps " + e, steps);
            for (int i = 0; i < steps; i++) {
                add(s, "step " + e + " " + i, x.who(e, 10 + i));
            }
            for (int p = 0; p < 5; p++) {
                add(s, "taste " + e + " " + p, x.who(e, 20 + p));
            }
        }
    }

    /** One sign behind it that can't stand there: its place tells the length, if nothing before it was wrong. */
    private static void tape(List<String> s, BallotFruit x) {
        add(s, "tape", x.feed(0x3F3F3F3F, 0, 0, 0, 0));
        add(s, "text", x.text(0));
        add(s, "its fault", x.fault(0));
        add(s, "its place", x.fault(1));
    }

    private static void past(List<String> s, BallotFruit x) {
        for (int i = 0; i < 7; i++) {
            add(s, "undo " + i, x.undo() ? 1 : 0);
            add(s, "week", x.look(3));
            add(s, "state", x.look(9));
            add(s, "book", x.look(8));
            add(s, "fenced", x.look(15));
            add(s, "store", x.of(0, 0));
            add(s, "hanging", x.of(0, 3));
        }
        add(s, "image", x.image(false) ? 1 : 0);
        looks(s, x);
    }

    private static void add(List<String> s, String name, int v) {
        s.add(name + " = " + v);
    }
}
