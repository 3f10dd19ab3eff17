/** Promises 1 to 9, 11, 12: what is told by hand, with its edges. */
public final class TellingTest {
    public static void main(String[] args) {
        anEmptyCommune();
        states();
        parties();
        eaters();
        tastes();
        settings();
        planting();
        fencing();
        boiling();
        theTape();
        Check.finish();
    }

    private static void anEmptyCommune() {
        BallotFruit x = new BallotFruit();
        int[] looks = {0, 0, 0, 0, 0, 0, 9, 4, 0, 0, 0, 0, 0, 0, 0, 0};
        for (int i = 0; i < looks.length; i++) {
            Check.due("new look " + i, x.look(i), looks[i]);
        }
        Check.due("new fault", x.fault(0), 0);
        Check.due("new fault's place", x.fault(1), -1);
        Check.due("NONE", BallotFruit.NONE, -1);
    }

    private static void states() {
        BallotFruit x = new BallotFruit();
        Check.due("state was", x.state(Integer.MIN_VALUE), 0);
        Check.due("state was", x.state(7), Integer.MIN_VALUE);
        Check.due("state is", x.look(9), 7);
    }

    private static void parties() {
        BallotFruit x = new BallotFruit();
        Check.due("store -1", x.party(-1), -1);
        Check.due("store 1000", x.party(1000), -1);
        for (int p = 0; p < 5; p++) {
            Check.due("party", x.party(p == 1 ? 999 : 0), p);
        }
        Check.due("the sixth", x.party(1), -1);
        Check.due("parties", x.look(0), 5);
        Check.due("store", x.of(1, 0), 999);
        Check.due("votes", x.of(1, 1), 0);
        Check.due("seats", x.of(1, 2), 0);
    }

    private static void eaters() {
        BallotFruit x = new BallotFruit();
        Check.due("hunger -1", x.eater(-1), -1);
        Check.due("hunger 21", x.eater(21), -1);
        for (int e = 0; e < 10; e++) {
            Check.due("eater", x.eater(e + 11), e);
        }
        Check.due("the eleventh", x.eater(1), -1);
        Check.due("eaters", x.look(2), 10);
        Check.due("hunger", x.who(9, 0), 20);
        x.party(0);
        Check.due("taste for a party that came later", x.who(9, 20), 5);
    }

    private static void tastes() {
        BallotFruit x = new BallotFruit();
        x.party(0);
        x.party(0);
        x.eater(1);
        x.eater(1);
        Check.due("taste", x.taste(1, 0, 9), true);
        Check.due("taste", x.taste(0, 1, 0), true);
        Check.due("taste 10", x.taste(0, 1, 10), false);
        Check.due("taste -1", x.taste(0, 1, -1), false);
        Check.due("no eater", x.taste(2, 1, 1), false);
        Check.due("no eater", x.taste(-1, 1, 1), false);
        Check.due("no party", x.taste(0, 2, 1), false);
        Check.due("no party", x.taste(0, -1, 1), false);
        int[] all = {x.who(0, 20), x.who(0, 21), x.who(1, 20), x.who(1, 21)};
        Check.due("tastes", all[0] * 1000 + all[1] * 100 + all[2] * 10 + all[3], 5095);
    }

    private static void settings() {
        BallotFruit x = new BallotFruit();
        int[][] rules = {{0, 0, 1000, 4}, {1, 0, 1000, 5}, {2, 1, 99, 6}, {3, 1, 52, 7}};
        for (int[] r : rules) {
            Check.due("set below", x.set(r[0], 77, r[1] - 1), false);
            Check.due("set above", x.set(r[0], 77, r[2] + 1), false);
            Check.due("set least", x.set(r[0], -77, r[1]), true);
            Check.due("least", x.look(r[3]), r[1]);
            Check.due("set most", x.set(r[0], 77, r[2]), true);
            Check.due("most", x.look(r[3]), r[2]);
        }
        x.party(0);
        x.eater(0);
        x.plant(0, 0, 0);
        int[][] values = {{4, 99}, {5, 20}, {6, 999}, {7, 9999}};
        for (int[] v : values) {
            Check.due("set of nobody", x.set(v[0], 1, 0), false);
            Check.due("set of nobody", x.set(v[0], -1, 0), false);
            Check.due("set below", x.set(v[0], 0, -1), false);
            Check.due("set above", x.set(v[0], 0, v[1] + 1), false);
            Check.due("set least", x.set(v[0], 0, 0), true);
            Check.due("set most", x.set(v[0], 0, v[1]), true);
        }
        Check.due("hanging", x.tree(0, 3), 99);
        Check.due("hunger", x.who(0, 0), 20);
        Check.due("store", x.of(0, 0), 999);
        Check.due("votes", x.of(0, 1), 9999);
        Check.due("another", x.set(8, 0, 0), false);
        Check.due("another", x.set(-1, 0, 0), false);
    }

    private static void planting() {
        BallotFruit x = new BallotFruit();
        x.party(0);
        Check.due("no party", x.plant(1, 0, 0), -1);
        Check.due("no party", x.plant(-1, 0, 0), -1);
        Check.due("no place", x.plant(0, 10, 0), -1);
        Check.due("no place", x.plant(0, -1, 0), -1);
        Check.due("no age", x.plant(0, 0, 100), -1);
        Check.due("no age", x.plant(0, 0, -1), -1);
        Check.due("nothing was done", x.look(8) + x.look(14), 0);
        for (int t = 0; t < 14; t++) {
            Check.due("tree", x.plant(0, t % 10, 99 - t), t);
        }
        Check.due("the fifteenth", x.plant(0, 0, 0), -1);
        Check.due("trees", x.look(1), 14);
        Check.due("tree's party", x.tree(13, 0), 0);
        Check.due("tree's place", x.tree(13, 1), 3);
        Check.due("tree's age", x.tree(13, 2), 86);
        Check.due("tree's hanging", x.tree(13, 3), 0);
        Check.due("book's what", x.book(13, 1), 0);
        Check.due("book's tree", x.book(13, 2), 13);
        Check.due("book's number", x.book(13, 3), 0);
    }

    private static void fencing() {
        BallotFruit x = new BallotFruit();
        x.weeks(1);
        Check.due("open already", x.fence(9, false), false);
        Check.due("fenced", x.fence(9, true), true);
        Check.due("fenced already", x.fence(9, true), false);
        Check.due("no place", x.fence(-1, true), false);
        Check.due("no place", x.fence(10, false), false);
        Check.due("fenced", x.fence(0, true), true);
        Check.due("those fenced", x.look(15), 513);
        Check.due("opened", x.fence(9, false), true);
        Check.due("is it", x.at(9) * 10 + x.at(0), 1);
        Check.due("book", x.look(8), 3);
        Check.due("book's week", x.book(2, 0), 1);
        Check.due("book's what", x.book(2, 1), 2);
        Check.due("book's place", x.book(2, 2), 9);
        Check.due("book's first", x.book(0, 1) * 10 + x.book(0, 2), 19);
    }

    private static void boiling() {
        BallotFruit x = new BallotFruit();
        x.party(990);
        x.party(0);
        x.plant(0, 0, 0);
        x.plant(1, 0, 0);
        x.plant(0, 1, 0);
        x.set(4, 0, 3);
        x.set(4, 1, 50);
        x.set(4, 2, 9);
        Check.due("none", x.boil(0, 0), -1);
        Check.due("too many", x.boil(0, 100), -1);
        Check.due("no party", x.boil(2, 1), -1);
        Check.due("no party", x.boil(-1, 1), -1);
        Check.due("five", x.boil(0, 5), 5);
        Check.due("the first is empty", x.tree(0, 3), 0);
        Check.due("of the second some", x.tree(2, 3), 7);
        Check.due("store", x.of(0, 0), 995);
        Check.due("as many as hang", x.boil(0, 99), 7);
        Check.due("store is full", x.of(0, 0), 999);
        Check.due("nothing hangs", x.boil(0, 1), 0);
        Check.due("another's stay", x.tree(1, 3), 50);
        Check.due("book's fruits", x.book(4, 3), 7);
        Check.due("book's party", x.book(4, 2), 0);
        Check.due("book's what", x.book(4, 1), 3);
        Check.due("undone", x.undo(), true);
        Check.due("undone", x.undo(), true);
        Check.due("store of before", x.of(0, 0), 995);
        Check.due("hanging of before", x.tree(2, 3), 7);
    }

    private static void theTape() {
        BallotFruit x = new BallotFruit();
        for (int i = 1; i <= 20; i++) {
            Check.due("feed", x.feed(0x20202020, 0x0A0A0A0A, 0x20202020, 0x0A20200A, 0x20202020), 20 * i);
        }
        Check.due("more than 400", x.feed(0, 0, 0, 0, 0), -1);
        Check.due("end 401", x.end(401), false);
        Check.due("end -1", x.end(-1), false);
        Check.due("end 400", x.end(400), true);
        Check.due("end 381", x.end(381), true);
        Check.due("401 would be", x.feed(0, 0, 0, 0, 0), -1);
        Check.due("end 380", x.end(380), true);
        Check.due("end 381 now", x.end(381), false);
        Check.due("feed", x.feed(0x20202020, 0x20202020, 0x20202020, 0x20202020, 0x2020203B), 400);
        Check.due("text", x.text(0), -1);
        Check.due("the lowest byte is the last", x.fault(1), 399);
        Check.due("the tape is empty", x.end(1), false);
        Check.due("feed", x.feed(0x62656172, 0x20312020, 0x20202020, 0x20202020, 0x2020203B), 20);
        Check.due("the highest byte is first", x.text(0), 1);
        Check.due("blanks alone are no line", Check.tell(x, 0, "  \n "), 0);
        Check.due("lines", x.look(10), 0);
    }
}
