/** Promises 10, 15 to 19 and part 3 of the terms: weeks, seats, the book, and what can be asked of all. */
public final class WeekTest {
    public static void main(String[] args) {
        boundsOfWeeks();
        bearing();
        whichTreeIsEaten();
        placesOneBehindTheOther();
        jam();
        tasteForNone();
        badOnes();
        wasps();
        seatsByRemainders();
        seatsOfLikeRemainders();
        votesAreBounded();
        yearsGoBy();
        thePlan();
        aFullStore();
        theBookIsFull();
        asked();
        Check.finish();
    }

    private static BallotFruit orchard(int hunger) {
        BallotFruit x = new BallotFruit();
        x.party(0);
        x.party(0);
        x.eater(hunger);
        Check.tell(x, 0, "bear 0;");
        return x;
    }

    private static void boundsOfWeeks() {
        BallotFruit x = new BallotFruit();
        Check.due("none", x.weeks(0), -1);
        Check.due("below", x.weeks(-5), -1);
        Check.due("too many", x.weeks(61), -1);
        for (int i = 0; i < 166; i++) {
            Check.due("sixty", x.weeks(60), 0);
        }
        Check.due("week", x.look(3), 9960);
        Check.due("beyond 9999", x.weeks(40), -1);
        Check.due("nothing was done", x.look(3), 9960);
        Check.due("up to 9999", x.weeks(39), 0);
        Check.due("week", x.look(3), 9999);
        Check.due("no more", x.weeks(1), -1);
        Check.due("in thought it goes on", x.goes(1, 0, 2), -1);
    }

    private static void bearing() {
        BallotFruit x = new BallotFruit();
        x.party(0);
        x.plant(0, 0, 99);
        x.plant(0, 0, 4);
        x.weeks(1);
        Check.due("age by 5", x.tree(0, 3), 19);
        Check.due("age by 5", x.tree(1, 3), 0);
        x.weeks(5);
        Check.due("99 at most", x.tree(0, 3), 99);
        Check.tell(x, 0, "bear hanging when hanging>0; bear 1;");
        x.weeks(4);
        Check.due("by what hangs", x.tree(1, 3), 8);
    }

    private static void whichTreeIsEaten() {
        BallotFruit x = orchard(5);
        x.plant(0, 3, 0);
        x.plant(1, 3, 0);
        x.plant(1, 4, 0);
        x.plant(0, 3, 0);
        for (int t = 0; t < 4; t++) {
            x.set(4, t, 2);
        }
        Check.tell(x, 1, "eater 0 by 3;");
        x.taste(0, 1, 6);
        Check.due("he is fed", x.weeks(1), 0);
        Check.due("of the greatest taste all", x.tree(1, 3), 0);
        Check.due("then the least", x.tree(0, 3), 0);
        Check.due("then the next", x.tree(3, 3), 1);
        Check.due("elsewhere none", x.tree(2, 3), 2);
        Check.due("votes", x.of(0, 1) * 10 + x.of(1, 1), 32);
        x.taste(0, 0, 6);
        x.set(4, 1, 1);
        x.set(4, 0, 1);
        x.set(5, 0, 1);
        x.weeks(1);
        Check.due("of like tastes the least tree, whose ever", x.tree(0, 3) * 10 + x.tree(1, 3), 1);
    }

    private static void placesOneBehindTheOther() {
        BallotFruit x = orchard(4);
        x.plant(0, 1, 0);
        x.plant(1, 2, 0);
        x.set(4, 0, 3);
        x.set(4, 1, 3);
        x.taste(0, 1, 9);
        Check.tell(x, 1, "eater 0 by 1 2 1;");
        Check.due("fed", x.weeks(1), 0);
        Check.due("the first place first", x.tree(0, 3), 0);
        Check.due("then the second", x.tree(1, 3), 2);
        x.set(4, 0, 9);
        x.fence(1, true);
        Check.due("hungry", x.weeks(1), 1);
        Check.due("fenced", x.tree(0, 3), 9);
        Check.due("the second", x.tree(1, 3), 0);
        int i = x.look(8) - 1;
        Check.due("book: hungry", x.book(i, 1), 5);
        Check.due("book: who", x.book(i, 2), 0);
        Check.due("book: how many more", x.book(i, 3), 2);
        Check.due("book: week", x.book(i, 0), 1);
        Check.due("hungry week by week", x.weeks(2), 2);
    }

    private static void jam() {
        BallotFruit x = orchard(5);
        x.set(6, 0, 2);
        x.set(6, 1, 4);
        x.taste(0, 1, 4);
        Check.due("fed by jam alone", x.weeks(1), 0);
        Check.due("the better first", x.of(0, 0) * 10 + x.of(1, 0), 1);
        Check.due("votes of jam", x.of(0, 1) * 10 + x.of(1, 1), 23);
        x.taste(0, 1, 5);
        x.set(6, 0, 1);
        x.set(5, 0, 1);
        x.weeks(1);
        Check.due("of like tastes the least party", x.of(0, 0) * 10 + x.of(1, 0), 1);
    }

    private static void tasteForNone() {
        BallotFruit x = orchard(2);
        x.plant(0, 1, 0);
        x.set(4, 0, 3);
        x.set(6, 0, 9);
        x.taste(0, 0, 0);
        Check.tell(x, 1, "eater 0 by 1;");
        Check.due("hungry before full trees", x.weeks(1), 1);
        Check.due("not eaten", x.tree(0, 3) * 10 + x.of(0, 0), 39);
        x.set(5, 0, 0);
        Check.due("who wants none is not hungry", x.weeks(1), 0);
    }

    private static void badOnes() {
        BallotFruit x = orchard(5);
        x.plant(0, 1, 0);
        x.set(4, 0, 9);
        x.set(6, 1, 9);
        Check.tell(x, 1, "eater 0 by 1;");
        x.set(0, 0, 563);
        x.state(0);
        // the draws are 563, 577, 494
        Check.due("who had a bad one is not hungry", x.weeks(1), 0);
        Check.due("three were eaten, no jam", x.tree(0, 3) * 10 + x.of(1, 0), 69);
        Check.due("three votes, the bad one too", x.of(0, 1), 3);
        Check.due("three draws", x.look(9), -775096599);
        Check.due("taste", x.who(0, 20), 3);
        Check.due("book", x.book(x.look(8) - 1, 1) * 100 + x.book(x.look(8) - 1, 2) * 10 + x.book(x.look(8) - 1, 3), 400);
        x.set(0, 0, 1);
        Check.due("five that are not bad", x.goes(1, 0, 1) + x.weeks(1) + x.of(0, 1), 16);
        Check.due("but were drawn for", x.look(9) != -775096599, true);
        x.undo();
        x.set(0, 0, 1000);
        x.weeks(1);
        Check.due("taste", x.who(0, 20), 1);
        x.weeks(1);
        Check.due("taste is 0 at least", x.who(0, 20), 0);
        Check.due("each week one", x.tree(0, 3), 4);
        x.weeks(1);
        Check.due("then jam, without draws", x.of(1, 0), 4);
    }

    private static void wasps() {
        BallotFruit x = orchard(0);
        x.plant(0, 1, 0);
        x.plant(0, 1, 0);
        x.plant(0, 1, 0);
        x.set(4, 0, 9);
        x.set(4, 1, 99);
        x.set(4, 2, 10);
        x.set(1, 0, 570);
        x.weeks(1);
        Check.due("below 10: no draw", x.tree(0, 3), 9);
        Check.due("563 is below 570: a tenth, downwards", x.tree(1, 3), 90);
        Check.due("577 is not", x.tree(2, 3), 10);
        Check.due("two draws", x.look(9), 1196435762);
        int i = x.look(8) - 1;
        Check.due("book", x.book(i, 1) * 100 + x.book(i, 2) * 10 + x.book(i, 3), 619);
        x.state(0);
        x.set(1, 0, 1);
        x.weeks(1);
        Check.due("draws for a thousandth too", x.look(9), 1196435762);
        x.set(1, 0, 563);
        x.state(0);
        x.weeks(1);
        Check.due("563 is not below 563", x.tree(1, 3), 90);
        x.set(1, 0, 1000);
        x.weeks(1);
        Check.due("a tenth of ten", x.tree(2, 3), 9);
    }

    private static int seats(BallotFruit x) {
        int v = 0;
        for (int p = 0; p < x.look(0); p++) {
            v = v * 100 + x.of(p, 2);
        }
        return v;
    }

    private static void seatsByRemainders() {
        BallotFruit x = orchard(0);
        x.party(0);
        x.set(3, 0, 2);
        x.set(2, 0, 10);
        x.set(7, 0, 5);
        x.set(7, 1, 3);
        x.set(7, 2, 1);
        // 50, 30, 10 by 9: 5 and 5, 3 and 3, 1 and 1: one is left
        Check.due("falls", x.falls(0) * 100 + x.falls(1) * 10 + x.falls(2), 631);
        x.weeks(1);
        Check.due("not yet", seats(x), 0);
        x.weeks(1);
        Check.due("seats", seats(x), 60301);
        Check.due("votes are 0", x.of(0, 1) + x.of(1, 1) + x.of(2, 1), 0);
        int i = x.look(8) - 1;
        Check.due("book", x.book(i, 0) * 1000 + x.book(i, 1) * 100 + x.book(i, 2) * 10 + x.book(i, 3), 1706);
        x.weeks(2);
        Check.due("no votes: they stay", seats(x), 60301);
        Check.due("but the book has a line", x.look(8), i + 2);
        x.set(7, 0, 9999);
        x.set(7, 1, 9999);
        x.set(7, 2, 9999);
        x.set(2, 0, 99);
        x.weeks(2);
        Check.due("many", seats(x), 333333);
        x.set(2, 0, 1);
        x.set(7, 2, 1);
        x.weeks(2);
        Check.due("all of one", seats(x), 1);
        Check.due("book: who has most", x.book(x.look(8) - 1, 2), 2);
    }

    private static void seatsOfLikeRemainders() {
        BallotFruit z = orchard(0);
        z.set(7, 1, 1);
        Check.due("one vote has all", z.falls(0) * 10 + z.falls(1), 9);
        BallotFruit x = orchard(0);
        x.set(3, 0, 1);
        x.set(2, 0, 1);
        x.set(7, 0, 4);
        x.set(7, 1, 4);
        Check.due("of like remainders the least", x.falls(0) * 10 + x.falls(1), 10);
        x.set(7, 0, 0);
        x.weeks(1);
        Check.due("seats", seats(x), 1);
        x.set(7, 0, 4);
        x.set(7, 1, 4);
        Check.due("the seats of before are not asked", x.falls(0) * 10 + x.falls(1), 10);
        x.weeks(1);
        Check.due("the seats of before are not asked", seats(x), 100);
        // 2, 6 by 4: 0 and 2, 1 and 2: one is left
        x.set(2, 0, 2);
        x.set(7, 0, 1);
        x.set(7, 1, 3);
        Check.due("the one with more seats downwards", x.falls(0) * 10 + x.falls(1), 2);
        x.weeks(1);
        Check.due("the one with more seats downwards", seats(x), 2);
        fiveOfLikeRemainders();
    }

    private static void fiveOfLikeRemainders() {
        BallotFruit x = new BallotFruit();
        int[] votes = {1, 3, 2, 3, 9};
        for (int p = 0; p < 5; p++) {
            x.party(0);
            x.set(7, p, votes[p]);
        }
        // nine chairs by 18 votes: downwards 0, 1, 1, 1, 4, and a half is left to all but party 2: two are left
        x.set(3, 0, 1);
        x.weeks(1);
        Check.due("party 4, then party 1", seats(x), 2010105);
        x.set(2, 0, 11);
        for (int p = 0; p < 5; p++) {
            x.set(7, p, 2);
        }
        x.weeks(1);
        Check.due("all alike", seats(x), 302020202);
    }

    private static void votesAreBounded() {
        BallotFruit x = orchard(2);
        x.set(6, 0, 9);
        Check.tell(x, 0, "bear 0; count 9;");
        x.set(7, 0, 9980);
        x.weeks(1);
        Check.due("18 more", x.of(0, 1), 9998);
        x.weeks(1);
        Check.due("9999 at most", x.of(0, 1), 9999);
    }

    private static void yearsGoBy() {
        BallotFruit x = orchard(0);
        x.plant(0, 0, 98);
        x.weeks(51);
        Check.due("not yet", x.tree(0, 2), 98);
        x.weeks(1);
        Check.due("a year", x.tree(0, 2), 99);
        x.weeks(52);
        Check.due("99 at most", x.tree(0, 2), 99);
    }

    private static void thePlan() {
        BallotFruit x = orchard(7);
        Check.tell(x, 0, "bear 3; want 0;");
        x.fence(5, true);
        Check.due("lines", Check.tell(x, 2, "on 0 plant 1 at 7; on 0 fence 5; on 0 open 4; on 1 boil 1 2;"
            + "on 1 fence 4; on 0 cheese 0; on 1 cheese 0; on 2 boil 0 5; on 2 open 5;"), 9);
        x.weeks(1);
        Check.due("planted", x.look(1), 1);
        Check.due("planted", x.tree(0, 0) * 100 + x.tree(0, 1) * 10 + x.tree(0, 2), 170);
        Check.due("bears at once", x.tree(0, 3), 3);
        Check.due("what is so already isn't written", x.look(8), 2);
        Check.due("cheese", x.who(0, 0), 14);
        x.weeks(1);
        Check.due("cheese, 20 at most", x.who(0, 0), 20);
        Check.due("boiled ahead of bearing", x.of(1, 0) * 10 + x.tree(0, 3), 24);
        Check.due("book: boiled", x.book(2, 1) * 100 + x.book(2, 2) * 10 + x.book(2, 3), 312);
        Check.due("book: fenced", x.book(3, 0) * 100 + x.book(3, 1) * 10 + x.book(3, 2), 114);
        x.weeks(1);
        Check.due("book: none boiled", x.book(4, 1) * 100 + x.book(4, 2) * 10 + x.book(4, 3), 300);
        Check.due("book: opened", x.book(5, 1) * 10 + x.book(5, 2), 25);
        BallotFruit y = orchard(0);
        for (int i = 0; i < 13; i++) {
            y.plant(0, 0, 0);
        }
        Check.tell(y, 2, "on 0 plant 0 at 1; on 0 plant 0 at 2;");
        y.weeks(1);
        Check.due("fourteen at most", y.look(1) * 100 + y.look(8), 1414);
        Check.due("the first of both", y.tree(13, 1), 1);
    }

    private static void aFullStore() {
        BallotFruit x = orchard(0);
        x.plant(0, 0, 0);
        x.set(4, 0, 9);
        x.set(6, 0, 998);
        Check.tell(x, 2, "on 0 boil 0 5;");
        x.weeks(1);
        Check.due("what is above is lost", x.of(0, 0) * 10 + x.tree(0, 3), 9994);
        Check.due("all were boiled", x.book(1, 3), 5);
    }

    private static void theBookIsFull() {
        BallotFruit x = new BallotFruit();
        for (int i = 0; i < 149; i++) {
            x.fence(i % 10, i / 10 % 2 == 0);
        }
        Check.due("149", x.look(8), 149);
        x.fence(9, true);
        x.fence(9, false);
        Check.due("150 and no more", x.look(8), 150);
        Check.due("the last", x.book(149, 1), 1);
        Check.due("none behind it", x.book(150, 1), -1);
        Check.due("undone", x.undo(), true);
        Check.due("it was full before", x.look(8), 150);
        Check.due("undone", x.undo(), true);
        Check.due("a line less", x.look(8), 149);
        Check.due("not there", x.book(149, 1), -1);
    }

    private static void asked() {
        BallotFruit x = orchard(0);
        x.plant(1, 0, 0);
        x.plant(1, 2, 30);
        x.set(4, 0, 5);
        x.set(4, 1, 6);
        Check.due("hanging of all its trees", x.of(1, 3), 11);
        Check.due("of none", x.of(0, 3), 0);
        Check.due("another what", x.of(0, 4), -1);
        Check.due("another what", x.of(0, -1), -1);
        Check.due("no party", x.of(2, 0), -1);
        Check.due("no party", x.of(-1, 0), -1);
        Check.due("another what", x.tree(0, 5), -1);
        Check.due("another what", x.tree(0, -1), -1);
        Check.due("no tree", x.tree(2, 0), -1);
        Check.due("no tree", x.tree(-1, 0), -1);
        int[] others = {-1, 3, 9, 10, 18, 19, 22, 24, 25, Integer.MAX_VALUE, Integer.MIN_VALUE};
        for (int what : others) {
            Check.due("who " + what, x.who(0, what), -1);
        }
        Check.due("no eater", x.who(1, 0), -1);
        Check.due("no eater", x.who(-1, 0), -1);
        x.party(0);
        x.party(0);
        x.party(0);
        x.taste(0, 4, 8);
        Check.due("taste for the fifth", x.who(0, 24), 8);
        Check.due("no sixth", x.who(0, 25), -1);
        Check.due("no place", x.at(-1), -1);
        Check.due("no place", x.at(10), -1);
        Check.due("book", x.book(0, 4), -1);
        Check.due("book", x.book(0, -1), -1);
        Check.due("book", x.book(-1, 0), -1);
        Check.due("book", x.book(2, 0), -1);
        Check.due("look", x.look(16), -1);
        Check.due("look", x.look(-1), -1);
    }
}
