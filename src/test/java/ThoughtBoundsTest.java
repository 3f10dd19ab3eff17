import java.math.BigInteger;
import java.util.Arrays;
import java.util.List;
import java.util.function.Consumer;
import java.util.function.ToIntFunction;

/**
 * Part 4 of the terms and promises 20 to 34: each bound of what is asked in thought, of CORES, of UNDO and of THE
 * IMAGE, at the last value that may be and at the first that may not; and that nothing of a thought stays.
 */
public final class ThoughtBoundsTest {
    public static void main(String[] args) {
        nothingOfAThoughtStays();
        goesIsBounded();
        goesFromOneToSixtyWeeks();
        goesBeyondTheLastWeek();
        fallsIsBounded();
        bringsIsBounded();
        bringsFromOneToTwentyWeeks();
        bringsOfEachOfFive();
        bringsOfAgeTen();
        bringsAtTenPlaces();
        bringsIfThereIsRoom();
        swingsIsBounded();
        swingsFromOneToTwentyWeeks();
        swingsByAllThatHangs();
        feedsIsBounded();
        feedsFromNoneToTenPlaces();
        coreIsBounded();
        eightCores();
        whoseIsBounded();
        whoseWithTasteAboveNothing();
        askFromTwoOn();
        askByTasteFive();
        leftIsBounded();
        leftUpToAllWants();
        leftIsModulo();
        rulesIsBounded();
        rulesByMoreThanHalf();
        weighsIsBounded();
        weighsByMoreThanHalf();
        lastsIsBounded();
        lastsBegunWeeks();
        meetsIsBounded();
        gameIsBounded();
        gamesThatAreLost();
        sixCanBeUndone();
        eachKindCanBeUndone();
        whatForgets();
        whatIsRefusedForgetsNothing();
        imageIfThereIsOne();
        imageOfAllThatIsFull();
        theLastTasteGoesBack();
        coresGoBack();
        theEighthCoreGoesBack();
        theFourteenthTreeGoesBack();
        Check.finish();
    }

    private static BallotFruit two(int hunger) {
        BallotFruit x = new BallotFruit();
        x.party(0);
        x.party(0);
        x.eater(hunger);
        x.eater(hunger);
        Check.tell(x, 0, "bear 0;");
        return x;
    }

    private static void dueNone(String what, Consumer<BallotFruit> way, int answer, ToIntFunction<BallotFruit> call) {
        Twin.dueNothing(what, way, call, answer);
    }

    /** "IN THOUGHT (nothing of it stays; no DRAWS: no bad ones, no wasps)." */
    private static void nothingOfAThoughtStays() {
        for (Consumer<BallotFruit> way : List.<Consumer<BallotFruit>>of(Twin::empty, Twin::some, Twin::full)) {
            dueNone("all thoughts", way, 0, x -> {
                for (int what = 0; what < 4; what++) {
                    x.goes(60, 1, what);
                }
                x.falls(1);
                x.brings(1, 20, 0);
                x.brings(1, 20, 1);
                x.swings(1, 20);
                for (int what = 0; what < 2; what++) {
                    x.feeds(what);
                    x.whose(what);
                    x.rules(what);
                    x.game(what);
                }
                x.left(99);
                x.weighs(1);
                x.lasts(1);
                x.meets(0, 1);
                return 0;
            });
        }
        BallotFruit x = two(1);
        x.set(0, 0, 1000);
        x.set(1, 0, 1000);
        x.plant(0, 0, 0);
        x.set(4, 0, 99);
        Check.tell(x, 1, "eater 0 by 0 0; eater 1 by 0 0;");
        // with bad ones, tastes would be 0 in the third week
        Check.due("no bad ones", x.goes(3, 0, 1), 6);
        Check.due("nobody is hungry", x.goes(3, 0, 2), -1);
        // with wasps, of 99 none would be left for the 49th
        Check.due("no wasps", x.goes(49, 0, 3), -1);
        Check.due("just so many", x.goes(49, 0, 2) * 10 + x.goes(50, 0, 2), -9);
        Check.due("in which week", x.goes(50, 0, 3), 49);
    }

    /** Promise 20: "NONE - 1 if one can't be, or another what." */
    private static void goesIsBounded() {
        for (int what = 0; what < 4; what++) {
            int w = what;
            for (int n : ToldBoundsTest.beyond(1, 60)) {
                dueNone("goes for " + n, Twin::some, -2, y -> y.goes(n, 0, w));
            }
            for (int p : ToldBoundsTest.beyond(0, 1)) {
                if (what < 2) {
                    dueNone("goes of party " + p, Twin::some, -2, y -> y.goes(3, p, w));
                } else {
                    BallotFruit x = two(3);
                    Check.due("party " + p + " isn't asked", x.goes(3, p, what), 0);
                }
            }
        }
        for (int what : ToldBoundsTest.beyond(0, 3)) {
            dueNone("goes what " + what, Twin::some, -2, y -> y.goes(3, 0, what));
        }
        dueNone("goes of the sixth", Twin::full, -2, y -> y.goes(3, 5, 0));
        dueNone("goes of nobody", Twin::empty, -2, y -> y.goes(3, 0, 0));
        dueNone("goes: nobody is hungry", Twin::empty, -1, y -> y.goes(60, 0, 2));
        dueNone("goes: nobody is hungry", Twin::empty, -1, y -> y.goes(60, 0, 3));
    }

    /** "GOES for n (1 .. 60) WEEKS". */
    private static void goesFromOneToSixtyWeeks() {
        BallotFruit x = two(1);
        x.set(6, 0, 118);
        x.set(3, 0, 1);
        Check.due("one week: seats", x.goes(1, 0, 0), 9);
        x.set(3, 0, 52);
        Check.due("one week: votes", x.goes(1, 0, 1), 2);
        Check.due("51 weeks: votes", x.goes(51, 0, 1), 102);
        Check.due("52 weeks: votes", x.goes(52, 0, 1), 0);
        Check.due("60 weeks: votes", x.goes(60, 0, 1), 14);
        Check.due("59 weeks: nobody", x.goes(59, 0, 2), -1);
        Check.due("60 weeks: the first", x.goes(60, 0, 2), 0);
        Check.due("60 weeks: in the last", x.goes(60, 0, 3), 59);
        x.set(6, 0, 119);
        Check.due("60 weeks: the second", x.goes(60, 0, 2), 1);
    }

    /** Only what is done is held to WEEK 9999: nothing of a thought stays. */
    private static void goesBeyondTheLastWeek() {
        BallotFruit x = new BallotFruit();
        for (int i = 0; i < 166; i++) {
            x.weeks(60);
        }
        x.weeks(39);
        x.party(2);
        x.eater(1);
        Check.due("week", x.look(3), 9999);
        Check.due("the third week", x.goes(3, 0, 2) * 100000 + x.goes(3, 0, 3), 10001);
        // week 9999 has new seats
        Check.due("two weeks", x.goes(2, 0, 1) * 10 + x.goes(2, 0, 0), 19);
        Check.due("brings", x.brings(0, 20, 1), 2);
        Check.due("nothing of it stays", x.look(3), 9999);
    }

    /** Promise 21: "NONE if there is no such PARTY." */
    private static void fallsIsBounded() {
        for (int p : ToldBoundsTest.beyond(0, 1)) {
            dueNone("falls of " + p, Twin::some, -1, y -> y.falls(p));
        }
        dueNone("falls of the sixth", Twin::full, -1, y -> y.falls(5));
        dueNone("falls of nobody", Twin::empty, -1, y -> y.falls(0));
        BallotFruit x = two(0);
        Check.due("no votes, no seats", x.falls(0) + x.falls(1), 0);
        x.set(7, 1, 9999);
        x.set(2, 0, 99);
        Check.due("all", x.falls(0) * 100 + x.falls(1), 99);
        x.set(7, 0, 9999);
        Check.due("49 and a half each: the least", x.falls(0) * 100 + x.falls(1), 5049);
    }

    /** Promise 22: "NONE if .. one can't be, or another what." */
    private static void bringsIsBounded() {
        for (int what = 0; what < 2; what++) {
            int w = what;
            for (int n : ToldBoundsTest.beyond(1, 20)) {
                dueNone("brings in " + n, Twin::some, -1, y -> y.brings(0, n, w));
            }
            for (int p : ToldBoundsTest.beyond(0, 1)) {
                dueNone("brings of " + p, Twin::some, -1, y -> y.brings(p, 3, w));
            }
            dueNone("brings of nobody", Twin::empty, -1, y -> y.brings(0, 3, w));
        }
        for (int what : ToldBoundsTest.beyond(0, 1)) {
            dueNone("brings what " + what, Twin::some, -1, y -> y.brings(0, 3, what));
        }
    }

    /** "BRINGS of a PARTY in n (1 .. 20) WEEKS: the PLACE for a TREE of AGE 10 now". */
    private static void bringsFromOneToTwentyWeeks() {
        for (int place = 0; place < 10; place++) {
            BallotFruit x = two(20);
            Check.tell(x, 0, "");
            Check.tell(x, 1, "eater 0 by " + place + ";");
            Check.due("where", x.brings(1, 1, 0), place);
            Check.due("two in one week", x.brings(1, 1, 1), 2);
            Check.due("two in each of twenty weeks", x.brings(1, 20, 1), 40);
            x.fence(place, true);
            Check.due("nowhere: the least", x.brings(1, 20, 0) * 10 + x.brings(1, 20, 1), 0);
        }
    }

    private static void bringsOfEachOfFive() {
        BallotFruit x = two(20);
        x.party(0);
        x.party(0);
        x.party(0);
        Check.tell(x, 0, "");
        Check.tell(x, 1, "eater 0 by 3 7; eater 1 by 8 7;");
        x.set(3, 0, 2);
        for (int p = 0; p < 5; p++) {
            Check.due("where, how many, party " + p, x.brings(p, 5, 0) * 100 + x.brings(p, 5, 1), 310);
            x.set(6, p, 30);
            Check.due("with spoons of its own, party " + p, x.brings(p, 1, 0) * 100 + x.brings(p, 1, 1), 332);
            x.set(6, p, 0);
        }
    }

    /** "a TREE of AGE 10 now": it grows older in these WEEKS. */
    private static void bringsOfAgeTen() {
        BallotFruit x = two(20);
        Check.tell(x, 0, "bear age;");
        Check.tell(x, 1, "eater 0 by 9;");
        Check.due("ten years", x.brings(0, 1, 1), 10);
        Check.tell(x, 0, "bear 1 when age>9 and age<11;");
        Check.due("ten years", x.brings(0, 1, 1), 1);
        x.weeks(51);
        Check.due("eleven, two by age", x.brings(0, 1, 1) * 10 + x.brings(0, 2, 1), 13);
    }

    /** "of several the least": no place but these ten, even if the party has less by a tree at each of them. */
    private static void bringsAtTenPlaces() {
        BallotFruit x = two(1);
        x.set(6, 0, 99);
        Check.tell(x, 0, "bear 9; count 9 when jam=1; count 2 when place=9; count 1;");
        Check.tell(x, 1, "eater 0 by 0 1 2 3 4; eater 1 by 5 6 7 8 9;");
        Check.due("a fruit and a spoon", x.brings(0, 1, 0) * 100 + x.brings(0, 1, 1), 911);
        Check.tell(x, 0, "bear 9; count 9 when jam=1; count 0;");
        Check.due("all alike", x.brings(0, 1, 0) * 100 + x.brings(0, 1, 1), 9);
    }

    /** "(if there is room)"; promise 22: "NONE if there is no room". */
    private static void bringsIfThereIsRoom() {
        dueNone("no room", Twin::full, -1, y -> y.brings(0, 1, 0));
        dueNone("no room", Twin::full, -1, y -> y.brings(0, 1, 1));
        BallotFruit x = two(1);
        for (int t = 0; t < 13; t++) {
            x.plant(0, 0, 0);
        }
        Check.tell(x, 0, "");
        Check.tell(x, 1, "eater 0 by 9;");
        Check.tell(x, 2, "on 0 plant 1 at 9;");
        Check.due("the last room", x.brings(0, 1, 0) * 10 + x.brings(0, 1, 1), 91);
        x.plant(0, 0, 0);
        Check.due("no room", x.brings(0, 1, 0) + x.brings(0, 1, 1), -2);
        x.undo();
        Check.due("room again", x.brings(0, 1, 0), 9);
    }

    /** Promise 23: "NONE if by none, or one can't be." */
    private static void swingsIsBounded() {
        for (int t : ToldBoundsTest.beyond(0, 1)) {
            dueNone("swings of " + t, Twin::some, -1, y -> y.swings(t, 20));
        }
        for (int n : ToldBoundsTest.beyond(1, 20)) {
            dueNone("swings in " + n, Twin::some, -1, y -> y.swings(0, n));
        }
        dueNone("swings of the fifteenth", Twin::full, -1, y -> y.swings(14, 1));
        dueNone("swings of none", Twin::empty, -1, y -> y.swings(0, 1));
    }

    /** The first eater eats a tree of party 0, the second one of party 1. */
    private static BallotFruit rivals(int first, int second) {
        BallotFruit x = two(20);
        x.plant(0, 1, 0);
        x.plant(1, 2, 0);
        x.set(4, 0, first);
        x.set(4, 1, second);
        Check.tell(x, 1, "eater 0 by 1; eater 1 by 2;");
        return x;
    }

    /** "SWINGS of a TREE in n (1 .. 20) WEEKS". */
    private static void swingsFromOneToTwentyWeeks() {
        BallotFruit x = rivals(3, 4);
        x.set(3, 0, 1);
        Check.due("in one week", x.swings(1, 1), 1);
        x.set(3, 0, 20);
        Check.due("in nineteen", x.swings(1, 19), -1);
        Check.due("in twenty", x.swings(1, 20), 1);
        x.set(3, 0, 21);
        Check.due("too late", x.swings(1, 20), -1);
        x.weeks(1);
        x.set(4, 0, 3);
        x.set(4, 1, 4);
        x.set(7, 0, 0);
        x.set(7, 1, 0);
        Check.due("a week later", x.swings(1, 19) * 10 + x.swings(1, 20), -9);
        Check.due("nothing of it stays", x.tree(1, 3), 4);
    }

    /** "the fewest fruits less HANGING on it now": up to all, and not more. */
    private static void swingsByAllThatHangs() {
        BallotFruit x = rivals(0, 20);
        x.set(3, 0, 1);
        Check.due("all twenty", x.swings(1, 1), 20);
        x.set(4, 1, 99);
        Check.due("twenty are eaten of ninety-nine", x.swings(1, 1), 99);
        x.set(7, 1, 1);
        Check.due("not by all", x.swings(1, 1), -1);
        Check.due("nothing hangs", x.swings(0, 1), -1);
        x.set(7, 1, 0);
        x.set(4, 0, 1);
        x.set(4, 1, 1);
        Check.due("the first has it anyway", x.swings(1, 1), -1);
        Check.due("the first loses it by its one", x.swings(0, 1), 1);
    }

    /** Promise 24: "NONE for another what." */
    private static void feedsIsBounded() {
        for (int what : ToldBoundsTest.beyond(0, 1)) {
            dueNone("feeds " + what, Twin::some, -1, y -> y.feeds(what));
        }
        dueNone("feeds nobody: how many", Twin::empty, 0, y -> y.feeds(0));
        dueNone("feeds nobody: the set", Twin::empty, 0, y -> y.feeds(1));
    }

    /** "the fewest PLACES such that each EATER with a PATH passes one of them". */
    private static void feedsFromNoneToTenPlaces() {
        BallotFruit x = new BallotFruit();
        for (int e = 0; e < 10; e++) {
            x.eater(0);
        }
        Check.due("no paths", x.feeds(0) * 10000 + x.feeds(1), 0);
        StringBuilder s = new StringBuilder();
        for (int e = 0; e < 10; e++) {
            s.append("eater ").append(e).append(" by ").append(9 - e).append(';');
            Check.due("a path more", Check.tell(x, 1, s.toString()), e + 1);
            Check.due("one each", x.feeds(0) * 10000 + x.feeds(1), (e + 1) * 10000 + (1023 >> 9 - e << 9 - e));
        }
        Check.tell(x, 1, "eater 0 by 9 3; eater 1 by 3 9; eater 2 by 8 9;");
        Check.due("one for all", x.feeds(0) * 10000 + x.feeds(1), 10512);
        Check.tell(x, 1, "eater 0 by 9 3; eater 1 by 3 9;");
        Check.due("of several the least", x.feeds(0) * 10000 + x.feeds(1), 10008);
    }

    /** Promise 25: "A CORE (party NONE: none is then): how many; NONE if one can't be". */
    private static void coreIsBounded() {
        for (int p : ToldBoundsTest.beyond(-1, 1)) {
            dueNone("core of party " + p, Twin::some, -1, y -> y.core(p, 0));
        }
        for (int place : ToldBoundsTest.beyond(0, 9)) {
            dueNone("core at " + place, Twin::some, -1, y -> y.core(0, place));
            BallotFruit x = two(0);
            x.core(0, 3);
            Check.due("none is then", x.core(-1, place), 0);
            Check.due("none is then", x.look(13), 0);
        }
        dueNone("core of the sixth", Twin::full, -1, y -> y.core(5, 0));
        dueNone("core of nobody", Twin::empty, -1, y -> y.core(0, 0));
        dueNone("no cores, there were none", Twin::empty, 0, y -> y.core(-1, 0));
        BallotFruit x = new BallotFruit();
        Twin.full(x);
        Check.due("none", x.core(-1, 0), 0);
        Check.due("the last of both", x.core(4, 9), 1);
        Check.due("the first of both", x.core(0, 0), 2);
    }

    /** "CORES, up to 8 told"; promise 25: "NONE if .. there are eight". */
    private static void eightCores() {
        BallotFruit x = two(0);
        Check.tell(x, 1, "eater 0 by 0 1 2 3 4 5 6 7; eater 1 by 0 1 2 3 4 5 6 8;");
        for (int i = 0; i < 7; i++) {
            Check.due("a core", x.core(0, i), i + 1);
            Check.due("both", x.whose(0), 3);
        }
        Check.due("the eighth", x.core(1, 7), 8);
        Check.due("the eighth is asked for", x.whose(0), 1);
        Check.due("the ninth", x.core(1, 8), -1);
        Check.due("the ninth isn't asked for", x.whose(0), 1);
        Check.due("eight", x.look(13), 8);
        dueNone("the ninth core", Twin::full, -1, y -> y.core(0, 0));
        Check.due("none", x.core(-1, 0), 0);
        Check.due("all", x.whose(0), 3);
        Check.due("from the first on", x.core(1, 8), 1);
        Check.due("the other", x.whose(0), 2);
    }

    /** Promise 26: "NONE for another what." */
    private static void whoseIsBounded() {
        for (int what : ToldBoundsTest.beyond(0, 1)) {
            dueNone("whose " + what, Twin::some, -1, y -> y.whose(what));
        }
        dueNone("whose, of no eaters", Twin::empty, 0, y -> y.whose(0));
        dueNone("ask, of no eaters", Twin::empty, -1, y -> y.whose(1));
        BallotFruit x = new BallotFruit();
        for (int e = 0; e < 10; e++) {
            x.eater(0);
            Check.due("without cores all", x.whose(0), (2 << e) - 1);
        }
    }

    /** "EATERS who pass each such PLACE and have TASTE for each such PARTY". */
    private static void whoseWithTasteAboveNothing() {
        for (int taste = 0; taste <= 9; taste++) {
            BallotFruit x = two(0);
            Check.tell(x, 1, "eater 0 by 9; eater 1 by 9;");
            x.core(0, 9);
            x.core(1, 9);
            x.taste(1, 1, taste);
            Check.due("taste " + taste, x.whose(0), taste == 0 ? 1 : 3);
        }
    }

    /** Promise 26: "ASK (1; NONE: WHOSE are fewer than two, or no PARTIES)". */
    private static void askFromTwoOn() {
        BallotFruit x = new BallotFruit();
        x.party(0);
        Check.due("of none", x.whose(1), -1);
        x.eater(0);
        Check.due("of one", x.whose(1), -1);
        x.eater(0);
        Check.due("of two", x.whose(1), 0);
        x.core(0, 0);
        Check.due("of none of two", x.whose(0) * 10 + x.whose(1), -1);
        Check.tell(x, 1, "eater 1 by 0;");
        Check.due("of one of two", x.whose(0) * 10 + x.whose(1), 19);
        Check.tell(x, 1, "eater 1 by 0; eater 0 by 0;");
        Check.due("of both", x.whose(0) * 10 + x.whose(1), 30);
        BallotFruit y = new BallotFruit();
        y.eater(0);
        y.eater(0);
        Check.due("no parties", y.whose(0) * 10 + y.whose(1), 29);
        y.party(0);
        Check.due("one party", y.whose(1), 0);
    }

    /** "those with TASTE 5 at least for it and those with less: the greater number is least; of several the least". */
    private static void askByTasteFive() {
        for (int taste = 0; taste <= 9; taste++) {
            BallotFruit x = two(0);
            x.party(0);
            x.party(0);
            x.party(0);
            x.taste(1, 4, taste);
            Check.due("taste " + taste, x.whose(1), taste < 5 ? 4 : 0);
            x.taste(0, 3, 4);
            Check.due("of several the least", x.whose(1), 3);
            x.taste(1, 3, 4);
            Check.due("both with less", x.whose(1), taste < 5 ? 4 : 0);
        }
        BallotFruit x = new BallotFruit();
        x.party(0);
        x.party(0);
        for (int e = 0; e < 10; e++) {
            x.eater(0);
        }
        for (int e = 0; e < 4; e++) {
            x.taste(e, 0, 1);
        }
        for (int e = 0; e < 5; e++) {
            x.taste(e, 1, 9 - 5);
        }
        Check.due("five and five before four and six", x.whose(1), 1);
        x.taste(5, 1, 0);
        Check.due("six and four is no better", x.whose(1), 0);
    }

    /** "LEFT k (0 .. 99) cores"; promise 27: "NONE if one can't be". */
    private static void leftIsBounded() {
        for (int k : ToldBoundsTest.beyond(0, 99)) {
            dueNone("left " + k, Twin::some, -1, y -> y.left(k));
        }
        dueNone("left 0 by nobody", Twin::empty, 1, y -> y.left(0));
        dueNone("left 1 by nobody", Twin::empty, 0, y -> y.left(1));
        dueNone("left 99 by nobody", Twin::empty, 0, y -> y.left(99));
    }

    /** "in how many ways by EATERS, each 0 .. its want now". */
    private static void leftUpToAllWants() {
        BallotFruit x = new BallotFruit();
        x.eater(0);
        Check.due("of one who wants none", x.left(0) * 10 + x.left(1), 10);
        x.eater(20);
        Check.due("up to all", x.left(0) * 100 + x.left(20) * 10 + x.left(21), 110);
        x.eater(19);
        Check.due("all", x.left(39), 1);
        Check.due("all but one", x.left(38), 2);
        Check.due("all and one", x.left(40), 0);
        Check.due("half", x.left(20) * 100 + x.left(19), 2020);
        for (int e = 3; e < 10; e++) {
            x.eater(e == 9 ? 0 : 10);
        }
        Check.due("of ninety-nine all", x.left(99), 1);
        Check.due("of ninety-nine all but one", x.left(98), 8);
        x.set(5, 0, 1);
        Check.due("of a hundred all but one", x.left(99), 9);
    }

    /** "modulo 1000000007": by counting with numbers that don't wrap. */
    private static void leftIsModulo() {
        BallotFruit x = new BallotFruit();
        for (int e = 0; e < 10; e++) {
            x.eater(20);
        }
        for (int k = 0; k < 100; k++) {
            Check.due("left " + k, x.left(k), ways(k).mod(BigInteger.valueOf(1000000007L)).intValue());
        }
    }

    /** Ways to leave k by ten who leave 0 to 20: one eater at a time, without a modulus. */
    private static BigInteger ways(int k) {
        BigInteger[] w = new BigInteger[k + 1];
        Arrays.fill(w, BigInteger.ZERO);
        w[0] = BigInteger.ONE;
        for (int e = 0; e < 10; e++) {
            BigInteger[] next = new BigInteger[k + 1];
            for (int i = 0; i <= k; i++) {
                next[i] = BigInteger.ZERO;
                for (int own = 0; own <= Math.min(20, i); own++) {
                    next[i] = next[i].add(w[i - own]);
                }
            }
            w = next;
        }
        return w[k];
    }

    /** Parties with so many SEATS; with none at all, none were given. */
    private static BallotFruit parliament(int... seats) {
        BallotFruit x = new BallotFruit();
        int chairs = 0;
        for (int v : seats) {
            x.set(7, x.party(0), v);
            chairs += v;
        }
        x.set(2, 0, Math.max(1, chairs));
        x.set(3, 0, 1);
        x.weeks(1);
        return x;
    }

    /** Promise 28: "NONE if there are no SEATS, or for another what." */
    private static void rulesIsBounded() {
        for (int what : ToldBoundsTest.beyond(0, 1)) {
            dueNone("rules " + what, Twin::some, -1, y -> y.rules(what));
            Check.due("rules " + what, parliament(1, 2).rules(what), -1);
        }
        for (int what = 0; what < 2; what++) {
            Check.due("no parties", new BallotFruit().rules(what), -1);
            Check.due("no seats", parliament(0, 0).rules(what), -1);
            Check.due("one seat", parliament(0, 1).rules(what), what + 1);
        }
    }

    /** "the fewest PARTIES whose SEATS together are more than half of all SEATS". */
    private static void rulesByMoreThanHalf() {
        int[][] seats = {{49, 50}, {50, 49}, {49, 49}, {1, 1}, {2, 1, 1}, {1, 2, 1}, {3, 1, 1}, {20, 20, 20, 20, 19}, {1, 1, 1, 1, 1},
            {1, 1, 1, 1, 4}, {1, 1, 1, 1, 5}, {10, 0, 10, 0, 0}, {2, 2, 2, 3}};
        // the last one: three parties are the lesser set 7, but two are fewer
        int[] due = {102, 101, 203, 203, 203, 203, 101, 307, 307, 217, 116, 205, 209};
        for (int i = 0; i < seats.length; i++) {
            BallotFruit x = parliament(seats[i]);
            Check.due("rules, case " + i, x.rules(0) * 100 + x.rules(1), due[i]);
        }
    }

    /** Promise 29: "NONE if there is no such PARTY." */
    private static void weighsIsBounded() {
        for (int p : ToldBoundsTest.beyond(0, 1)) {
            dueNone("weighs " + p, Twin::some, -1, y -> y.weighs(p));
        }
        dueNone("weighs the sixth", Twin::full, -1, y -> y.weighs(5));
        dueNone("weighs nobody", Twin::empty, -1, y -> y.weighs(0));
        Check.due("no seats: none turns none", parliament(0, 0).weighs(0), 0);
    }

    /** "in how many sets of all others it turns no more than half into more". */
    private static void weighsByMoreThanHalf() {
        int[][] seats = {{1}, {1, 1}, {2, 1}, {1, 1, 2}, {1, 1, 1, 1, 4}, {1, 1, 1, 1, 5}, {1, 1, 1, 1, 1}};
        int[][] due = {{1}, {1, 1}, {2, 0}, {1, 1, 3}, {1, 1, 1, 1, 15}, {0, 0, 0, 0, 16}, {6, 6, 6, 6, 6}};
        for (int i = 0; i < seats.length; i++) {
            BallotFruit x = parliament(seats[i]);
            for (int p = 0; p < seats[i].length; p++) {
                Check.due("weighs " + p + ", case " + i, x.weighs(p), due[i][p]);
            }
        }
    }

    /** Promise 30: "NONE if none is taken, or there is no such PARTY." */
    private static void lastsIsBounded() {
        for (int p : ToldBoundsTest.beyond(0, 1)) {
            dueNone("lasts " + p, Twin::some, -1, y -> y.lasts(p));
        }
        dueNone("lasts, the sixth", Twin::full, -1, y -> y.lasts(5));
        dueNone("lasts, nobody", Twin::empty, -1, y -> y.lasts(0));
        BallotFruit x = new BallotFruit();
        x.party(5);
        x.party(0);
        Check.due("no eaters", x.lasts(0) + x.lasts(1), -2);
        x.eater(0);
        Check.due("who wants none", x.lasts(0) + x.lasts(1), -2);
        x.set(5, 0, 1);
        Check.due("who wants one", x.lasts(0) * 10 + x.lasts(1), 50);
        x.taste(0, 0, 0);
        x.taste(0, 1, 1);
        Check.due("who has taste for one alone", x.lasts(0) * 10 + x.lasts(1), -10);
    }

    /** "in how many WEEKS STORE is gone". */
    private static void lastsBegunWeeks() {
        BallotFruit x = new BallotFruit();
        x.party(0);
        for (int e = 0; e < 10; e++) {
            x.eater(20);
        }
        int[] store = {0, 1, 199, 200, 201, 400, 401, 800, 801, 999};
        int[] due = {0, 1, 1, 1, 2, 2, 3, 4, 5, 5};
        for (int i = 0; i < store.length; i++) {
            x.set(6, 0, store[i]);
            Check.due("store " + store[i], x.lasts(0), due[i]);
        }
        for (int e = 1; e < 10; e++) {
            x.taste(e, 0, 0);
        }
        Check.due("one alone", x.lasts(0), 50);
        x.set(5, 0, 1);
        Check.due("a spoon a week", x.lasts(0), 999);
    }

    /** Promise 31: "NONE if one can't be (alike may be)". */
    private static void meetsIsBounded() {
        for (int e : ToldBoundsTest.beyond(0, 1)) {
            dueNone("meets " + e, Twin::some, -1, y -> y.meets(e, 0));
            dueNone("meets " + e, Twin::some, -1, y -> y.meets(1, e));
            dueNone("meets " + e, Twin::some, -1, y -> y.meets(e, e));
        }
        dueNone("meets the eleventh", Twin::full, -1, y -> y.meets(9, 10));
        dueNone("meets nobody", Twin::empty, -1, y -> y.meets(0, 0));
        BallotFruit x = new BallotFruit();
        Twin.full(x);
        Check.due("alike, eight places", x.meets(9, 9), 1020);
        Check.due("none of both", x.meets(0, 9), 0);
        Check.due("no paths", x.meets(1, 1), 0);
        Check.tell(x, 1, "eater 9 by 9 0; eater 8 by 0 1 2 3 4 5 6 9;");
        Check.due("the first and the last", x.meets(9, 8), 513);
    }

    /** Promise 32: "NONE if who begins loses, or for another what." */
    private static void gameIsBounded() {
        for (int what : ToldBoundsTest.beyond(0, 1)) {
            dueNone("game " + what, Twin::some, -1, y -> y.game(what));
        }
        dueNone("game without trees", Twin::empty, -1, y -> y.game(0));
        dueNone("game without trees", Twin::empty, -1, y -> y.game(1));
    }

    /** Two by turns pick 1, 2 or 3 of one tree; all states of two trees are gone through. */
    private static void gamesThatAreLost() {
        int most = 9;
        boolean[][] wins = new boolean[most + 1][most + 1];
        for (int sum = 0; sum <= 2 * most; sum++) {
            for (int a = Math.max(0, sum - most); a <= Math.min(most, sum); a++) {
                int b = sum - a;
                int good = -1;
                for (int n = 3; n >= 1; n--) {
                    good = b >= n && !wins[a][b - n] ? 10 + n : good;
                }
                for (int n = 3; n >= 1; n--) {
                    good = a >= n && !wins[a - n][b] ? n : good;
                }
                wins[a][b] = good != -1;
                BallotFruit x = two(0);
                x.plant(0, 0, 0);
                x.plant(1, 0, 0);
                x.set(4, 0, a);
                x.set(4, 1, b);
                Check.due("the tree of " + a + " " + b, x.game(0), good == -1 ? -1 : good / 10);
                Check.due("how many of " + a + " " + b, x.game(1), good == -1 ? -1 : good % 10);
            }
        }
        BallotFruit x = new BallotFruit();
        Twin.full(x);
        for (int t = 0; t < 14; t++) {
            x.set(4, t, 4);
        }
        Check.due("all are lost", x.game(0) + x.game(1), -2);
        for (int t = 0; t < 14; t++) {
            x.set(4, t, t == 13 ? 99 : 0);
        }
        Check.due("the last tree, three", x.game(0) * 10 + x.game(1), 133);
    }

    /** "UNDO: .. 6 are kept"; promise 33: "false if there is nothing". */
    private static void sixCanBeUndone() {
        for (int n = 0; n <= 8; n++) {
            BallotFruit x = new BallotFruit();
            for (int place = 0; place < n; place++) {
                x.fence(place, true);
            }
            int can = Math.min(6, n);
            Check.due("can be undone", x.look(14), can);
            for (int i = 1; i <= can; i++) {
                Check.due("undone", x.undo(), true);
                Check.due("the latest first", x.look(15), (1 << n - i) - 1);
                Check.due("one less", x.look(14), can - i);
                Check.due("the book", x.look(8), n - i);
            }
            Check.due("nothing", x.undo(), false);
            Check.due("nothing is done", x.look(15) * 1000 + x.look(8), ((1 << n - can) - 1) * 1000 + n - can);
            Check.due("and again", x.fence(9, true) && x.undo() && !x.undo(), true);
        }
        dueNone("nothing to undo", Twin::empty, 0, y -> y.undo() ? 1 : 0);
        BallotFruit x = new BallotFruit();
        x.weeks(60);
        Check.due("sixty weeks, six", x.look(14), 6);
        Check.due("undone", x.undo() && x.undo() && x.undo() && x.undo() && x.undo() && x.undo(), true);
        Check.due("no seventh", x.undo(), false);
        Check.due("week", x.look(3), 54);
    }

    /** "the latest WEEK, planting, fencing, opening, boiling not undone yet goes back (STATE, THE BOOK, too)". */
    private static void eachKindCanBeUndone() {
        for (int kind = 0; kind < 5; kind++) {
            int k = kind;
            dueNone("done and undone, kind " + kind, Twin::some, 1, x -> {
                boolean done = switch (k) {
                    case 0 -> x.weeks(1) >= 0;
                    case 1 -> x.plant(1, 9, 99) == 2;
                    case 2 -> x.fence(9, true);
                    case 3 -> x.fence(7, false);
                    default -> x.boil(1, 99) >= 0;
                };
                return done && x.look(14) == 5 && x.undo() ? 1 : 0;
            });
        }
    }

    /** "whatever else is told but THE LAW, CORES (the taking of THE IMAGE does not) forgets them." */
    private static void whatForgets() {
        List<Consumer<BallotFruit>> told = List.of(x -> x.state(5), x -> x.party(0), x -> x.eater(0),
            x -> x.taste(0, 0, 5), x -> x.set(0, 0, 0), x -> x.set(1, 0, 0), x -> x.set(2, 0, 9), x -> x.set(3, 0, 4),
            x -> x.set(4, 0, 1), x -> x.set(5, 0, 1), x -> x.set(6, 0, 1), x -> x.set(7, 0, 1), x -> Check.tell(x, 1, ""),
            x -> Check.tell(x, 2, ""), x -> Check.tell(x, 1, "eater 0 by 1;"), x -> x.image(false));
        for (int i = 0; i < told.size(); i++) {
            BallotFruit x = new BallotFruit();
            Twin.some(x);
            Check.due("four", x.look(14), 4);
            told.get(i).accept(x);
            Check.due("forgotten by " + i, x.look(14), 0);
            Check.due("forgotten by " + i, x.undo(), false);
        }
        List<Consumer<BallotFruit>> kept = List.of(x -> Check.tell(x, 0, ""), x -> Check.tell(x, 0, "bear 1;"),
            x -> x.core(0, 0), x -> x.core(-1, 0), x -> x.image(true), x -> x.feed(0, 0, 0, 0, 0), x -> x.end(0));
        for (int i = 0; i < kept.size(); i++) {
            BallotFruit x = new BallotFruit();
            Twin.some(x);
            kept.get(i).accept(x);
            Check.due("kept by " + i, x.look(14), 4);
            Check.due("kept by " + i, x.undo() && x.undo() && x.undo() && x.undo() && !x.undo(), true);
            Check.due("week", x.look(3), 0);
        }
    }

    /** A call that is refused tells nothing: what can be undone stays. */
    private static void whatIsRefusedForgetsNothing() {
        List<Consumer<BallotFruit>> refused = List.of(x -> x.party(1000), x -> x.eater(21), x -> x.taste(0, 0, 10),
            x -> x.set(0, 0, 1001), x -> x.set(8, 0, 0), x -> x.set(4, 2, 0), x -> x.plant(0, 10, 0), x -> x.fence(7, true),
            x -> x.boil(0, 100), x -> x.weeks(61), x -> Check.tell(x, 1, "?"), x -> Check.tell(x, 2, "?"), x -> Check.tell(x, 3, ""),
            x -> x.core(2, 0));
        for (int i = 0; i < refused.size(); i++) {
            BallotFruit x = new BallotFruit();
            Twin.some(x);
            refused.get(i).accept(x);
            Check.due("kept by " + i, x.look(14), 4);
        }
        BallotFruit x = new BallotFruit();
        x.fence(0, true);
        Check.due("no image", x.image(false), false);
        Check.due("kept without an image", x.look(14), 1);
    }

    /** Promise 34: "false if there is none". */
    private static void imageIfThereIsOne() {
        dueNone("no image", Twin::empty, 0, y -> y.image(false) ? 1 : 0);
        dueNone("no image", y -> written(y, 149), 0, y -> y.image(false) ? 1 : 0);
        BallotFruit x = new BallotFruit();
        Check.due("none", x.image(false), false);
        Check.due("taken of an empty commune", x.image(true), true);
        Twin.full(x);
        BallotFruit y = new BallotFruit();
        y.image(true);
        Twin.some(y);
        y.image(true);
        y.party(1);
        for (int i = 0; i < 3; i++) {
            y.weeks(9);
            Check.due("gone back, more than once", y.image(false), true);
            Check.due("week, parties", y.look(3) * 10 + y.look(0), 22);
            Check.due("nothing can be undone", y.look(14), 0);
        }
    }

    private static void written(BallotFruit x, int lines) {
        for (int i = 0; i < lines; i++) {
            x.fence(i % 10, i / 10 % 2 == 0);
        }
    }

    /** "all that is and was told .. as it was when it was taken": where all is as much as can be. */
    private static void imageOfAllThatIsFull() {
        BallotFruit x = new BallotFruit();
        x.image(true);
        Twin.full(x);
        Check.due("taken in its way", x.image(false), true);
        int[] before = {5, 14, 10, 0, 0, 0, 9, 4, 14, -5, 16, 16, 16, 0, 0, 0};
        for (int what = 0; what < before.length; what++) {
            Check.due("look " + what, x.look(what), before[what]);
        }
        Check.due("the last eater's path", x.who(9, 2) * 10 + x.who(9, 17), 82);
        Check.due("the last tree", x.tree(13, 0) * 1000 + x.tree(13, 1) * 100 + x.tree(13, 2), 3391);
        Check.due("the tape stays, and is full", x.feed(0, 0, 0, 0, 0), -1);
        Check.due("undone", x.undo(), false);
        Check.due("the 16th line of the law", x.who(0, 1) * 10 + x.tree(0, 4), 93);
        x.weeks(3);
        Check.due("the 16th line of the plan", x.look(15), 8);
    }

    /** Tastes of all eaters for all parties: in thought, undone, in THE IMAGE. */
    private static void theLastTasteGoesBack() {
        for (int e = 0; e < 10; e++) {
            for (int p = 0; p < 5; p++) {
                BallotFruit x = new BallotFruit();
                Twin.full(x);
                x.taste(e, p, 7);
                Check.tell(x, 0, "bear 0;");
                Check.tell(x, 1, "");
                for (int i = 0; i < 10; i++) {
                    x.set(5, i, i == e ? 1 : 0);
                }
                x.set(6, p, 9);
                Check.due("in thought", x.goes(1, p, 1) - x.of(p, 1), 1);
                x.image(true);
                x.set(0, 0, 1000);
                Check.tell(x, 1, "eater " + e + " by 0 1 2 3 4 5 6 7;");
                for (int t = 0; t < 14; t++) {
                    x.set(4, t, x.tree(t, 0) == p ? 9 : 0);
                }
                x.fence(3, false);
                x.weeks(1);
                Check.due("a bad one", x.who(e, 20 + p), 5);
                x.undo();
                Check.due("undone", x.who(e, 20 + p), 7);
                x.taste(e, p, 2);
                x.image(false);
                Check.due("the image", x.who(e, 20 + p), 7);
            }
        }
    }

    /** CORES are in THE IMAGE: how many, their parties and their places. */
    private static void coresGoBack() {
        BallotFruit x = two(0);
        Check.tell(x, 1, "eater 0 by 3 4; eater 1 by 3 5;");
        x.taste(0, 1, 0);
        x.core(1, 3);
        Check.due("no taste for it", x.whose(0), 2);
        x.image(true);
        x.core(-1, 0);
        x.core(0, 4);
        x.core(0, 3);
        Check.due("another", x.whose(0) * 10 + x.look(13), 12);
        x.image(false);
        Check.due("as it was", x.whose(0) * 10 + x.look(13), 21);
        x.core(0, 5);
        x.image(true);
        x.core(-1, 0);
        x.core(1, 3);
        x.core(0, 4);
        Check.due("nobody", x.whose(0), 0);
        x.image(false);
        Check.due("its place", x.whose(0) * 10 + x.look(13), 22);
    }

    private static void theEighthCoreGoesBack() {
        BallotFruit x = two(0);
        Check.tell(x, 1, "eater 0 by 3 4; eater 1 by 3 5;");
        x.taste(1, 1, 0);
        for (int i = 0; i < 7; i++) {
            x.core(0, 3);
        }
        x.core(1, 4);
        x.image(true);
        x.core(-1, 0);
        for (int i = 0; i < 7; i++) {
            x.core(0, 3);
        }
        x.core(0, 5);
        Check.due("another", x.whose(0), 2);
        x.image(false);
        Check.due("its place", x.whose(0), 1);
        Check.tell(x, 1, "eater 0 by 3 4; eater 1 by 3 4;");
        Check.due("its party", x.whose(0), 1);
    }

    private static int lastTree(BallotFruit x) {
        return x.tree(13, 0) * 1000000 + x.tree(13, 1) * 10000 + x.tree(13, 2) * 100 + x.tree(13, 3);
    }

    /** All of the last TREE: in thought, undone, in THE IMAGE. */
    private static void theFourteenthTreeGoesBack() {
        BallotFruit x = two(1);
        for (int t = 0; t < 13; t++) {
            x.plant(0, 0, 0);
        }
        x.weeks(50);
        x.plant(1, 9, 98);
        x.set(4, 13, 44);
        Check.tell(x, 1, "eater 0 by 9;");
        Check.tell(x, 0, "bear 0 when party=0; bear 3 when party=1 and place=9 and age=98; bear 20 when age=99;");
        Check.due("in thought it is eaten", x.goes(1, 1, 1), 1);
        x.image(true);
        x.weeks(2);
        Check.due("two weeks, and a year older", lastTree(x), 1099948);
        x.undo();
        x.undo();
        Check.due("undone", lastTree(x), 1099844);
        x.image(true);
        x.weeks(3);
        Check.due("in a year more it bears more", lastTree(x), 1099967);
        x.image(false);
        Check.due("the image", lastTree(x), 1099844);
        BallotFruit y = two(1);
        for (int t = 0; t < 13; t++) {
            y.plant(0, 0, 0);
        }
        y.plant(1, 9, 98);
        y.image(true);
        y.undo();
        Check.due("planted anew", y.plant(0, 2, 7), 13);
        Check.due("another tree", lastTree(y), 20700);
        y.image(false);
        Check.due("the image's tree", lastTree(y), 1099800);
        y.plant(0, 0, 0);
        Check.due("fourteen", y.look(1), 14);
    }
}
