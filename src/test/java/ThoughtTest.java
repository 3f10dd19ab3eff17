/** Promises 20 to 32 and part 4 of the terms: what is asked in thought. */
public final class ThoughtTest {
    public static void main(String[] args) {
        goes();
        falls();
        brings();
        bringsNoMoreThanVotesHold();
        swings();
        feeds();
        cores();
        left();
        rules();
        lasts();
        meets();
        game();
        Check.finish();
    }

    private static BallotFruit two(int hunger) {
        BallotFruit x = new BallotFruit();
        x.party(0);
        x.party(0);
        x.eater(hunger);
        x.eater(hunger);
        Check.tell(x, 0, "bear 0;");
        return x;
    }

    private static void goes() {
        BallotFruit x = two(2);
        x.set(6, 1, 7);
        x.set(0, 0, 1000);
        x.set(1, 0, 1000);
        x.plant(0, 0, 0);
        x.set(4, 0, 50);
        Check.tell(x, 1, "eater 1 by 0;");
        Check.tell(x, 2, "on 2 cheese 1; on 2 fence 0;");
        int lines = x.look(8);
        Check.due("votes of fruit", x.goes(2, 0, 1), 4);
        Check.due("votes of jam", x.goes(2, 1, 1), 4);
        // the third week: 3 spoons are left, two of them for eater 0; eater 1 would eat 4
        Check.due("who is hungry first", x.goes(3, 0, 2), 1);
        Check.due("when", x.goes(3, 0, 3), 2);
        Check.due("nobody in two weeks", x.goes(2, 0, 2), -1);
        Check.due("nobody in two weeks", x.goes(2, 0, 3), -1);
        Check.due("the first stays the first", x.goes(60, 99, 2), 1);
        Check.due("party isn't asked", x.goes(60, -99, 3), 2);
        Check.due("seats", x.goes(4, 0, 0), 3);
        Check.due("seats", x.goes(4, 1, 0), 6);
        Check.due("votes are 0 then", x.goes(4, 1, 1), 0);
        Check.due("no such party", x.goes(4, 2, 0), -2);
        Check.due("no such party", x.goes(4, -1, 1), -2);
        Check.due("no weeks", x.goes(0, 0, 0), -2);
        Check.due("too many", x.goes(61, 0, 0), -2);
        Check.due("another what", x.goes(4, 0, 4), -2);
        Check.due("another what", x.goes(4, 0, -1), -2);
        Check.due("nothing of it stays", x.look(3) + x.look(9) + x.look(15) + x.look(8) - lines, 0);
        Check.due("nothing of it stays", x.of(1, 0) * 100 + x.tree(0, 3), 750);
        Check.due("of several the least eater", two(1).goes(9, 0, 2), 0);
    }

    private static void falls() {
        BallotFruit x = two(0);
        x.set(7, 0, 1);
        x.set(7, 1, 2);
        Check.due("falls", x.falls(0) * 10 + x.falls(1), 36);
        Check.due("nothing of it stays", x.of(1, 2), 0);
        Check.due("nothing of it stays", x.of(1, 1), 2);
        Check.due("no party", x.falls(2), -1);
        Check.due("no party", x.falls(-1), -1);
        x.weeks(4);
        Check.due("no votes: as they are", x.falls(0) * 10 + x.falls(1), 36);
    }

    private static void brings() {
        BallotFruit x = two(3);
        Check.tell(x, 0, "bear 5; count place;");
        Check.tell(x, 1, "eater 0 by 2; eater 1 by 7 2;");
        x.set(3, 0, 1);
        x.set(7, 0, 9000);
        // at 2 both eat 5 in a week and 6 from the second on; at 7 eater 1 alone eats 3
        Check.due("where", x.brings(0, 1, 0), 7);
        Check.due("how many", x.brings(0, 1, 1), 21);
        Check.due("where", x.brings(0, 20, 0), 7);
        Check.due("how many, also those that became seats", x.brings(0, 20, 1), 420);
        Check.tell(x, 0, "bear 5;");
        Check.due("where", x.brings(1, 2, 0), 2);
        Check.due("how many", x.brings(1, 2, 1), 10);
        Check.tell(x, 0, "");
        Check.due("age 10", x.brings(1, 3, 1), 6);
        x.taste(0, 1, 0);
        x.taste(1, 1, 0);
        Check.due("of several the least", x.brings(1, 3, 0) * 10 + x.brings(1, 3, 1), 0);
        Check.due("no weeks", x.brings(0, 0, 0), -1);
        Check.due("too many", x.brings(0, 21, 0), -1);
        Check.due("no party", x.brings(2, 1, 0), -1);
        Check.due("no party", x.brings(-1, 1, 0), -1);
        Check.due("another what", x.brings(0, 1, 2), -1);
        Check.due("another what", x.brings(0, 1, -1), -1);
        Check.due("nothing of it stays", x.look(1) + x.look(3) + x.look(8), 0);
        for (int i = 0; i < 14; i++) {
            Check.due("room", x.brings(0, 1, 0) != -1, true);
            x.plant(0, 0, 0);
        }
        Check.due("no room", x.brings(0, 1, 0), -1);
    }

    private static void bringsNoMoreThanVotesHold() {
        BallotFruit x = two(3);
        Check.tell(x, 0, "bear 5; count 4 when place = 2; count 5;");
        Check.tell(x, 1, "eater 0 by 2; eater 1 by 7;");
        // no seats fall in three weeks: each eater eats 3 in a week, at 2 for 12 votes, at 7 for 15
        Check.due("far below", x.brings(0, 3, 0) * 1000 + x.brings(0, 3, 1), 7045);
        x.set(7, 0, 9954);
        Check.due("just as many", x.brings(0, 3, 0) * 1000 + x.brings(0, 3, 1), 7045);
        x.set(7, 0, 9955);
        Check.due("one is too many", x.brings(0, 3, 0) * 1000 + x.brings(0, 3, 1), 7044);
        x.set(7, 0, 9963);
        Check.due("as many at 2: the least", x.brings(0, 3, 0) * 1000 + x.brings(0, 3, 1), 2036);
        x.set(7, 0, 9999);
        Check.due("none more", x.brings(0, 3, 0) * 1000 + x.brings(0, 3, 1), 0);
        Check.due("behind a seating they grow again", x.brings(0, 5, 0) * 1000 + x.brings(0, 5, 1), 7015);
        x.set(7, 0, 9992);
        Check.due("up to the seating and behind it", x.brings(0, 5, 1), 22);
        Check.due("nobody else's", x.brings(1, 3, 1), 45);
        x.set(6, 0, 9);
        x.set(7, 0, 9997);
        Check.tell(x, 1, "");
        Check.due("spoons too", x.brings(0, 1, 0) * 1000 + x.brings(0, 1, 1), 2);
        x.set(7, 0, 9999);
        Check.due("spoons too: none more", x.brings(0, 1, 1), 0);
    }

    private static void swings() {
        BallotFruit x = two(10);
        x.plant(0, 1, 0);
        x.plant(1, 2, 0);
        x.set(4, 0, 9);
        x.set(4, 1, 5);
        Check.tell(x, 1, "eater 0 by 1; eater 1 by 2;");
        Check.due("no seats in that time", x.swings(0, 3), -1);
        // 9 and 5 of 9 seats: 5 and 11, 3 and 3 by 14; 4 and 5 swings to the other
        Check.due("by how little", x.swings(0, 4), 5);
        Check.due("longer is the same", x.swings(0, 20), 5);
        Check.due("by none", x.swings(1, 4), -1);
        Check.due("no tree", x.swings(2, 4), -1);
        Check.due("no tree", x.swings(-1, 4), -1);
        Check.due("no weeks", x.swings(0, 0), -1);
        Check.due("too many", x.swings(0, 21), -1);
        Check.due("nothing of it stays", x.tree(0, 3) * 10 + x.tree(1, 3), 95);
        x.set(4, 1, 0);
        Check.due("no votes at all: nobody's seats, the least is it", x.swings(0, 4), -1);
        x.set(4, 0, 5);
        x.set(4, 1, 9);
        Check.due("the least of like ones is another one", x.swings(1, 4), 4);
        x.set(4, 0, 0);
        x.set(4, 1, 3);
        x.set(3, 0, 1);
        Check.due("no votes then: the least of those without seats", x.swings(1, 1), 3);
        x.set(4, 0, 2);
        x.set(7, 0, 1);
        Check.due("one less is a tie", x.swings(1, 1), -1);
        x.set(7, 0, 0);
        Check.due("one less is a tie", x.swings(1, 1), 1);
        x.weeks(1);
        x.set(3, 0, 3);
        x.set(4, 0, 3);
        x.set(4, 1, 4);
        Check.due("seats in the third week", x.swings(1, 1), -1);
        Check.due("seats in the third week, one less is a tie", x.swings(1, 2), 1);
    }

    private static void feeds() {
        BallotFruit x = two(0);
        x.eater(0);
        x.eater(0);
        Check.due("nobody has a path", x.feeds(0) * 10 + x.feeds(1), 0);
        Check.tell(x, 1, "eater 0 by 1 2; eater 1 by 2 3; eater 2 by 3 1;");
        Check.due("how many", x.feeds(0), 2);
        Check.due("of several the least", x.feeds(1), 6);
        Check.tell(x, 1, "eater 0 by 9 2; eater 1 by 2 3; eater 2 by 3 2; eater 3 by 9;");
        Check.due("how many", x.feeds(0), 2);
        Check.due("the set", x.feeds(1), 516);
        x.fence(9, true);
        Check.due("fenced or not", x.feeds(1), 516);
        Check.due("another what", x.feeds(2), -1);
        Check.due("another what", x.feeds(-1), -1);
    }

    private static void cores() {
        BallotFruit x = two(0);
        x.eater(0);
        Check.tell(x, 1, "eater 0 by 1 2; eater 1 by 2 3; eater 2 by 1 2;");
        Check.due("no cores: all", x.whose(0), 7);
        Check.due("no party", x.core(2, 1), -1);
        Check.due("no party", x.core(-2, 1), -1);
        Check.due("no place", x.core(0, 10), -1);
        Check.due("no place", x.core(0, -1), -1);
        Check.due("a core", x.core(0, 1), 1);
        Check.due("who passes", x.whose(0), 5);
        Check.due("a core", x.core(1, 2), 2);
        Check.due("who passes both", x.whose(0), 5);
        Check.due("none divides: the least", x.whose(1), 0);
        x.taste(2, 1, 4);
        Check.due("the one that divides", x.whose(1), 1);
        x.taste(0, 1, 1);
        x.taste(2, 0, 9);
        Check.due("both are less: no better", x.whose(1), 0);
        x.taste(2, 1, 0);
        Check.due("no taste for it", x.whose(0), 1);
        Check.due("fewer than two", x.whose(1), -1);
        Check.due("another what", x.whose(2), -1);
        Check.due("another what", x.whose(-1), -1);
        for (int i = 3; i <= 8; i++) {
            Check.due("up to eight", x.core(0, 9), i);
        }
        Check.due("the ninth", x.core(0, 9), -1);
        Check.due("nobody passes", x.whose(0), 0);
        Check.due("cores", x.look(13), 8);
        Check.due("none is then", x.core(-1, 77), 0);
        Check.due("cores", x.look(13), 0);
        BallotFruit y = new BallotFruit();
        y.eater(0);
        y.eater(0);
        Check.due("no parties", y.whose(0) * 10 + y.whose(1), 29);
    }

    private static void left() {
        BallotFruit x = new BallotFruit();
        for (int e = 0; e < 10; e++) {
            x.eater(20);
        }
        Check.due("k -1", x.left(-1), -1);
        Check.due("k 100", x.left(100), -1);
        Check.due("one way", x.left(0), 1);
        Check.due("ten ways", x.left(1), 10);
        Check.due("two", x.left(2), 55);
        // C(30, 9) less 10 for a whole 21 of one
        Check.due("twenty-one", x.left(21), 14307140);
        Check.tell(x, 0, "want 1;");
        Check.due("by want", x.left(5), 252);
        Check.due("more than there were", x.left(11), 0);
        Check.tell(x, 0, "want 20;");
        Check.due("modulo", x.left(99), (int) (ways(99) % 1000000007L));
    }

    /** By taking away those with more than 20, turn by turn; below 2 to the 63rd. */
    private static long ways(int k) {
        long sum = 0;
        for (int j = 0; 21 * j <= k; j++) {
            sum += (j % 2 == 0 ? 1 : -1) * over(10, j) * over(k - 21 * j + 9, 9);
        }
        return sum;
    }

    private static long over(long n, int k) {
        long v = 1;
        for (int i = 1; i <= k; i++) {
            v = v * (n - k + i) / i;
        }
        return v;
    }

    private static BallotFruit parliament(int... votes) {
        BallotFruit x = new BallotFruit();
        int chairs = 0;
        for (int v : votes) {
            x.set(7, x.party(0), v);
            chairs += v;
        }
        x.set(2, 0, chairs);
        x.set(3, 0, 1);
        x.weeks(1);
        return x;
    }

    private static void rules() {
        BallotFruit x = parliament(3, 3, 2, 2);
        Check.due("half is not enough", x.rules(0), 2);
        Check.due("of several the least", x.rules(1), 3);
        Check.due("another what", x.rules(2), -1);
        Check.due("another what", x.rules(-1), -1);
        Check.due("weighs", x.weighs(0), 4);
        Check.due("weighs", x.weighs(3), 2);
        Check.due("no party", x.weighs(4), -1);
        Check.due("no party", x.weighs(-1), -1);
        BallotFruit y = parliament(5, 1, 2, 2, 0);
        Check.due("half and one", y.rules(0), 2);
        Check.due("half and one", y.rules(1), 3);
        Check.due("one that is nothing", y.weighs(4), 0);
        Check.due("all but one set, with and without it", y.weighs(0), 14);
        BallotFruit z = parliament(1, 1, 1, 1, 5);
        Check.due("one alone", z.rules(0) * 100 + z.rules(1), 116);
        BallotFruit none = new BallotFruit();
        none.party(0);
        Check.due("no seats", none.rules(0), -1);
        Check.due("no seats", none.weighs(0), 0);
    }

    private static void lasts() {
        BallotFruit x = two(3);
        Check.due("it is gone", x.lasts(0), 0);
        x.set(6, 0, 12);
        Check.due("two weeks", x.lasts(0), 2);
        x.set(6, 0, 13);
        Check.due("a third begun", x.lasts(0), 3);
        x.taste(1, 0, 0);
        Check.due("one alone", x.lasts(0), 5);
        Check.tell(x, 0, "want 20;");
        Check.due("by want", x.lasts(0), 1);
        Check.tell(x, 0, "want 1;");
        Check.due("spoon by spoon", x.lasts(0), 13);
        x.taste(0, 0, 1);
        Check.due("a taste of 1", x.lasts(0), 13);
        x.taste(0, 0, 0);
        Check.due("none is taken", x.lasts(0), -1);
        x.taste(0, 0, 1);
        Check.tell(x, 0, "want 0;");
        Check.due("none is taken", x.lasts(0), -1);
        Check.due("no party", x.lasts(2), -1);
        Check.due("no party", x.lasts(-1), -1);
    }

    private static void meets() {
        BallotFruit x = two(0);
        x.eater(0);
        Check.tell(x, 1, "eater 0 by 9 0 4 9; eater 1 by 4 9;");
        Check.due("both", x.meets(0, 1), 528);
        Check.due("both", x.meets(1, 0), 528);
        Check.due("alike", x.meets(0, 0), 529);
        Check.due("no path", x.meets(0, 2), 0);
        Check.due("no eater", x.meets(0, 3), -1);
        Check.due("no eater", x.meets(-1, 0), -1);
    }

    private static int pick(int... hanging) {
        BallotFruit x = two(0);
        for (int h : hanging) {
            x.set(4, x.plant(0, 0, 0), h);
        }
        int t = x.game(0);
        int n = x.game(1);
        Check.due("another what", x.game(2), -1);
        Check.due("another what", x.game(-1), -1);
        return t == -1 && n == -1 ? -1 : 10 * t + n;
    }

    private static void game() {
        Check.due("no tree", pick(), -1);
        Check.due("nothing hangs", pick(0, 0), -1);
        Check.due("four are lost", pick(4), -1);
        Check.due("like ones are lost", pick(7, 3), -1);
        Check.due("three", pick(3), 3);
        Check.due("five", pick(5), 1);
        Check.due("ninety-nine", pick(99), 3);
        Check.due("the second", pick(1, 3), 12);
        Check.due("also upwards: 4 to 3", pick(4, 3), 1);
        Check.due("not from nothing", pick(0, 3), 13);
        Check.due("1 2 4", pick(1, 2, 4), 11);
    }
}
