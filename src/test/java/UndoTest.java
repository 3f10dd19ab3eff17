/** Promises 33 to 35: what can be undone, what forgets it, and the image. */
public final class UndoTest {
    public static void main(String[] args) {
        oneByOne();
        sixAreKept();
        whatForgets();
        whatDoesNotForget();
        stateAndTastes();
        theLawStays();
        theImage();
        theImageAgain();
        theBookOfTheImage();
        Check.finish();
    }

    private static BallotFruit some() {
        BallotFruit x = new BallotFruit();
        x.party(5);
        x.eater(1);
        x.plant(0, 0, 10);
        return x;
    }

    private static void oneByOne() {
        BallotFruit x = new BallotFruit();
        Check.due("nothing", x.undo(), false);
        x.party(0);
        x.plant(0, 3, 25);
        x.fence(3, true);
        x.weeks(2);
        x.fence(3, false);
        x.boil(0, 4);
        Check.due("six", x.look(14), 6);
        Check.due("boiled", x.of(0, 0), 4);
        Check.due("boiling", x.undo(), true);
        Check.due("boiling", x.of(0, 0) * 100 + x.tree(0, 3) * 10 + x.look(8), 103);
        Check.due("opening", x.undo(), true);
        Check.due("opening", x.at(3), 1);
        Check.due("a week", x.undo(), true);
        Check.due("a week", x.look(3) * 10 + x.tree(0, 3), 15);
        Check.due("a week", x.undo(), true);
        Check.due("a week", x.look(3) * 10 + x.tree(0, 3), 0);
        Check.due("fencing", x.undo(), true);
        Check.due("fencing", x.at(3), 0);
        Check.due("planting", x.undo(), true);
        Check.due("planting", x.look(1), 0);
        Check.due("the book", x.look(8), 0);
        Check.due("nothing", x.undo(), false);
        Check.due("the party stays", x.look(0), 1);
    }

    private static void sixAreKept() {
        BallotFruit x = new BallotFruit();
        x.weeks(9);
        Check.due("six", x.look(14), 6);
        for (int i = 0; i < 6; i++) {
            Check.due("undone", x.undo(), true);
        }
        Check.due("no seventh", x.undo(), false);
        Check.due("week", x.look(3), 3);
        Check.due("the book", x.look(8), 0);
        x.weeks(60);
        x.undo();
        x.undo();
        x.weeks(1);
        Check.due("five", x.look(14), 5);
        Check.due("week", x.look(3), 62);
    }

    private static void whatForgets() {
        for (int i = 0; i < 9; i++) {
            BallotFruit x = some();
            Check.due("one", x.look(14), 1);
            switch (i) {
                case 0: x.state(0); break;
                case 1: x.party(0); break;
                case 2: x.eater(0); break;
                case 3: x.taste(0, 0, 5); break;
                case 4: x.set(0, 0, 0); break;
                case 5: x.set(4, 0, 0); break;
                case 6: x.text(1); break;
                case 7: x.text(2); break;
                default: x.image(true); x.image(false); break;
            }
            Check.due("forgotten by " + i, x.look(14), 0);
            Check.due("forgotten by " + i, x.undo(), false);
        }
    }

    private static void whatDoesNotForget() {
        BallotFruit x = some();
        x.party(-1);
        x.eater(-1);
        x.taste(0, 0, 10);
        x.set(0, 0, -1);
        x.set(9, 0, 0);
        x.plant(0, 10, 0);
        x.fence(0, false);
        x.boil(0, 0);
        x.weeks(0);
        x.image(false);
        Check.tell(x, 1, "eater;");
        Check.tell(x, 2, "on;");
        Check.tell(x, 3, "on;");
        Check.due("what can't be", x.look(14), 1);
        Check.tell(x, 0, "bear 9;");
        x.core(0, 0);
        x.core(-1, 0);
        x.image(true);
        Check.due("the law, cores, the image's taking", x.look(14), 1);
        x.goes(3, 0, 0);
        x.brings(0, 3, 0);
        x.swings(0, 3);
        Check.due("thoughts", x.look(14), 1);
        Check.due("undone", x.undo(), true);
        Check.due("undone", x.look(1), 0);
    }

    private static void stateAndTastes() {
        BallotFruit x = some();
        x.set(4, 0, 9);
        x.set(0, 0, 1000);
        Check.tell(x, 1, "eater 0 by 0;");
        Check.tell(x, 2, "on 0 cheese 0; on 0 plant 0 at 3;");
        x.state(12);
        x.weeks(1);
        Check.due("taste", x.who(0, 20), 3);
        Check.due("hunger", x.who(0, 0), 2);
        Check.due("trees", x.look(1), 2);
        Check.due("undone", x.undo(), true);
        Check.due("state", x.look(9), 12);
        Check.due("taste", x.who(0, 20), 5);
        Check.due("hunger", x.who(0, 0), 1);
        Check.due("trees", x.look(1), 1);
        Check.due("votes", x.of(0, 1), 0);
        Check.due("hanging", x.tree(0, 3), 9);
        Check.due("the book", x.look(8), 1);
    }

    private static void theLawStays() {
        BallotFruit x = some();
        x.weeks(1);
        Check.tell(x, 0, "bear 7;");
        x.core(0, 1);
        x.undo();
        Check.due("the law is not undone", x.tree(0, 4), 7);
        Check.due("cores are not undone", x.look(13), 1);
    }

    private static void theImage() {
        BallotFruit x = some();
        Check.due("there is none", x.image(false), false);
        Check.tell(x, 0, "bear 7;");
        Check.tell(x, 1, "eater 0 by 4 5;");
        Check.tell(x, 2, "on 9 open 0;");
        x.set(0, 0, 11);
        x.set(1, 0, 12);
        x.core(0, 4);
        x.fence(2, true);
        x.state(5);
        x.weeks(1);
        Check.due("taken", x.image(true), true);
        Check.due("what can be undone stays", x.look(14), 1);
        x.party(9);
        x.eater(2);
        x.taste(0, 0, 9);
        for (int what = 0; what < 4; what++) {
            x.set(what, 0, 33);
        }
        x.plant(1, 1, 1);
        x.fence(2, false);
        x.weeks(40);
        x.core(-1, 1);
        x.core(1, 1);
        Check.tell(x, 0, "");
        Check.tell(x, 1, "");
        Check.tell(x, 2, "");
        x.state(6);
        Check.tell(x, 0, "want 1/0;");
        Check.put(x, "bear 8;");
        x.fence(7, true);
        Check.due("gone back", x.image(false), true);
        int[] looks = {1, 1, 1, 1, 11, 12, 9, 4, 2, 5, 1, 1, 1, 1, 0, 4};
        for (int i = 0; i < looks.length; i++) {
            Check.due("look " + i, x.look(i), looks[i]);
        }
        Check.due("the law", x.tree(0, 4), 7);
        Check.due("the path", x.who(0, 2) * 100 + x.who(0, 10) * 10 + x.who(0, 11), 245);
        Check.due("taste", x.who(0, 20), 5);
        Check.due("store", x.of(0, 0), 4);
        Check.due("votes", x.of(0, 1), 1);
        Check.due("whose", x.whose(0), 1);
        Check.due("the fault stays", x.fault(0) * 10 + x.fault(1), 27);
        Check.due("the tape stays", x.text(0), 1);
        Check.due("the tape stays", x.tree(0, 4), 8);
        Check.due("nothing can be undone", x.undo(), false);
    }

    private static void theImageAgain() {
        BallotFruit x = some();
        x.image(true);
        for (int i = 0; i < 3; i++) {
            x.weeks(5);
            Check.due("gone back", x.image(false), true);
            Check.due("week", x.look(3), 0);
        }
        x.weeks(2);
        x.image(true);
        x.weeks(2);
        x.image(false);
        Check.due("the later image", x.look(3), 2);
        x.weeks(1);
        Check.due("undone behind it", x.undo(), true);
        Check.due("week", x.look(3), 2);
    }

    private static void theBookOfTheImage() {
        BallotFruit x = some();
        x.fence(8, true);
        x.image(true);
        x.undo();
        x.fence(6, true);
        x.weeks(1);
        x.image(false);
        Check.due("lines", x.look(8), 2);
        Check.due("the line of then", x.book(1, 2), 8);
        for (int i = 0; i < 148; i++) {
            x.fence(8, i % 2 == 1);
        }
        Check.due("a full book", x.look(8), 150);
        x.image(true);
        x.undo();
        x.fence(5, true);
        x.image(false);
        Check.due("the last line of then", x.book(149, 2), 8);
    }
}
