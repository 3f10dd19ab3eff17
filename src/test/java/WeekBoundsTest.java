/**
 * Part 3 of the terms and promise 10: each bound of a WEEK at the last value that may be and at the first that may
 * not, what is full, what is empty, and what is held to its bounds.
 */
public final class WeekBoundsTest {
    public static void main(String[] args) {
        oneToSixtyWeeks();
        weekIs9999AtMost();
        whatStaysAtTheLastWeek();
        aPlansFirstAndLastWeek();
        aPlanLineByLine();
        aPlanPlantsUpToFourteen();
        aPlanBoilsAsManyAsHang();
        aPlanFillsTheStore();
        cheeseIsTwiceAsMuch();
        hangingIs99AtMost();
        eatsAsManyAsWanted();
        eatsOfFourteenTrees();
        eaterByEater();
        tasteAboveNothing();
        fencedPlaces();
        spoonsAsManyAsThereAre();
        spoonsOfFiveParties();
        tasteForJamAboveNothing();
        votesAre9999AtMost();
        badOnesBelowBad();
        noDrawsWithoutBad();
        tasteIsTwoLess();
        aBadLastOne();
        waspsBelowWasps();
        waspsFromTenHanging();
        noDrawsWithoutWasps();
        everyWeek();
        everyFiftyTwoWeeks();
        aYearHas52Weeks();
        ageIs99AtMost();
        chairsFromOneTo99();
        seatsWithoutVotes();
        theGreatestVotes();
        theBookHas150Lines();
        theBookIsFullInAWeek();
        theBookNamesTheLast();
        Check.finish();
    }

    /** Two parties without jam, an eater, trees that bear nothing. */
    private static BallotFruit quiet(int hunger) {
        BallotFruit x = new BallotFruit();
        x.party(0);
        x.party(0);
        x.eater(hunger);
        Check.tell(x, 0, "bear 0;");
        x.set(3, 0, 52);
        return x;
    }

    private static int plantWith(BallotFruit x, int party, int place, int hanging) {
        int t = x.plant(party, place, 0);
        x.set(4, t, hanging);
        return t;
    }

    /** A state behind which the first draw of 1000 is this one. */
    private static int stateFor(int draw) {
        for (int s = 0; s < 1000000; s++) {
            long next = 1664525L * s + 1013904223L & 0xFFFFFFFFL;
            if (next / 256 % 1000 == draw) {
                return s;
            }
        }
        throw new IllegalStateException("no state for " + draw);
    }

    private static void dueLine(BallotFruit x, int i, int week, int what, int who, int many) {
        int[] due = {week, what, who, many};
        for (int k = 0; k < 4; k++) {
            Check.due("line " + i + " what " + k, x.book(i, k), due[k]);
        }
    }

    /** Promise 10: "WEEKS go by (1 .. 60): how many times one was HUNGRY. NONE, and nothing is done, if one can't be". */
    private static void oneToSixtyWeeks() {
        BallotFruit x = new BallotFruit();
        for (int e = 0; e < 10; e++) {
            x.eater(1);
        }
        Check.due("one", x.weeks(1), 10);
        Check.due("sixty", x.weeks(60), 600);
        Check.due("week", x.look(3), 61);
        for (int n : ToldBoundsTest.beyond(1, 60)) {
            Twin.dueNothing("weeks " + n, Twin::some, y -> y.weeks(n), -1);
        }
        Twin.dueNothing("weeks 0 of a new object", Twin::empty, y -> y.weeks(0), -1);
        Twin.dueNothing("weeks 61 of a full one", Twin::full, y -> y.weeks(61), -1);
    }

    private static BallotFruit inWeek(int week) {
        BallotFruit x = new BallotFruit();
        x.eater(0);
        for (int i = 0; i < week; i += 60) {
            x.weeks(Math.min(60, week - i));
        }
        Check.due("week", x.look(3), week);
        return x;
    }

    /** Promise 10: "NONE, and nothing is done, if .. WEEK would be above 9999." */
    private static void weekIs9999AtMost() {
        for (int n : new int[] {1, 2, 59, 60}) {
            BallotFruit x = inWeek(9999 - n);
            Check.due("up to 9999", x.weeks(n), 0);
            Check.due("week", x.look(3), 9999);
            Check.due("no more", x.weeks(1), -1);
            Check.due("no more", x.weeks(60), -1);
            Check.due("week", x.look(3), 9999);
            BallotFruit y = inWeek(10000 - n);
            Check.due("10000", y.weeks(n), -1);
            Check.due("nothing is done", y.look(3), 10000 - n);
        }
    }

    private static void whatStaysAtTheLastWeek() {
        BallotFruit x = inWeek(9998);
        x.party(3);
        x.eater(1);
        x.plant(0, 0, 50);
        x.set(1, 0, 1000);
        x.state(77);
        x.fence(3, true);
        int lines = x.look(8);
        Check.due("10000", x.weeks(2), -1);
        Check.due("store, votes", x.of(0, 0) * 10 + x.of(0, 1), 30);
        Check.due("hanging", x.tree(0, 3), 0);
        Check.due("state", x.look(9), 77);
        Check.due("lines", x.look(8), lines);
        Check.due("what can be undone", x.look(14), 1);
        Check.due("the last week", x.weeks(1), 0);
        Check.due("store, votes", x.of(0, 0) * 10 + x.of(0, 1), 21);
        Check.due("what can be undone", x.look(14), 2);
        Check.due("by hand it goes on", x.fence(4, true), true);
        Check.due("undone", x.undo() && x.undo() && x.undo(), true);
        Check.due("week", x.look(3), 9998);
        Check.due("again the last week", x.weeks(1), 0);
    }

    /** "(WEEK 0 .. 999)": a line of the first, and of the last. */
    private static void aPlansFirstAndLastWeek() {
        BallotFruit x = new BallotFruit();
        Check.dueText(x, 2, "on 999 fence 9; on 0 fence 0;", 2, 0, -1);
        x.weeks(1);
        Check.due("week 0", x.look(15), 1);
        for (int i = 0; i < 16; i++) {
            x.weeks(60);
        }
        x.weeks(38);
        Check.due("ahead of week 999", x.look(3) * 10 + x.look(15), 9991);
        x.weeks(1);
        Check.due("behind week 999", x.look(15), 513);
        x.fence(0, false);
        x.fence(9, false);
        x.weeks(60);
        Check.due("never again", x.look(15), 0);
    }

    /** "Line by line of A PLAN for this WEEK". */
    private static void aPlanLineByLine() {
        BallotFruit x = quiet(0);
        plantWith(x, 0, 3, 5);
        Check.dueText(x, 2, "on 0 open 3; on 0 fence 3; on 0 fence 3; on 0 open 3; on 0 boil 0 2; on 1 boil 0 9; on 0 boil 0 1;"
            + "on 0 plant 1 at 9; on 0 boil 1 9;", 9, 0, -1);
        x.weeks(1);
        Check.due("lines", x.look(8), 7);
        dueLine(x, 1, 0, 1, 3, 0);
        dueLine(x, 2, 0, 2, 3, 0);
        dueLine(x, 3, 0, 3, 0, 2);
        dueLine(x, 4, 0, 3, 0, 1);
        dueLine(x, 5, 0, 0, 1, 0);
        dueLine(x, 6, 0, 3, 1, 0);
        Check.due("not fenced", x.at(3), 0);
        Check.due("two hang", x.tree(0, 3), 2);
    }

    /** "plant: a TREE of AGE 0 there, if there are fewer than 14". */
    private static void aPlanPlantsUpToFourteen() {
        for (int trees = 12; trees <= 14; trees++) {
            BallotFruit x = quiet(0);
            for (int t = 0; t < trees; t++) {
                x.plant(0, 0, 9);
            }
            Check.dueText(x, 2, "on 0 plant 1 at 9; on 0 plant 1 at 8; on 0 fence 2;", 3, 0, -1);
            x.weeks(1);
            Check.due("fourteen", x.look(1), 14);
            Check.due("lines", x.look(8), 15);
            dueLine(x, 14, 0, 1, 2, 0);
            int last = x.tree(13, 0) * 1000 + x.tree(13, 1) * 100 + x.tree(13, 2) * 10 + x.tree(13, 3);
            Check.due("the last tree", last, new int[] {1800, 1900, 90}[trees - 12]);
            Check.due("in thought too", x.brings(0, 1, 0), -1);
        }
    }

    /** "boil: .. N fruits in all (as many as hang)". */
    private static void aPlanBoilsAsManyAsHang() {
        for (int n = 5; n <= 8; n++) {
            BallotFruit x = quiet(0);
            plantWith(x, 0, 0, 3);
            plantWith(x, 1, 0, 50);
            plantWith(x, 0, 0, 4);
            Check.dueText(x, 2, "on 0 boil 0 " + n + ";", 1, 0, -1);
            x.weeks(1);
            Check.due("the first is empty", x.tree(0, 3), 0);
            Check.due("the other's", x.tree(1, 3), 50);
            Check.due("the last", x.tree(2, 3), Math.max(0, 7 - n));
            Check.due("spoons", x.of(0, 0), Math.min(7, n));
            dueLine(x, 3, 0, 3, 0, Math.min(7, n));
        }
    }

    /** "(STORE 999 at most: what is above is lost)". */
    private static void aPlanFillsTheStore() {
        for (int store = 993; store <= 996; store++) {
            BallotFruit x = quiet(0);
            plantWith(x, 1, 0, 9);
            x.set(6, 1, store);
            Check.dueText(x, 2, "on 0 boil 1 5;", 1, 0, -1);
            x.weeks(1);
            Check.due("store", x.of(1, 0), Math.min(999, store + 5));
            Check.due("fruits", x.tree(0, 3), 4);
            dueLine(x, 1, 0, 3, 1, 5);
        }
    }

    /** "cheese: HUNGER twice as much (20 at most)". */
    private static void cheeseIsTwiceAsMuch() {
        int[] hungers = {0, 1, 9, 10, 11, 19, 20};
        int[] due = {0, 2, 18, 20, 20, 20, 20};
        for (int i = 0; i < hungers.length; i++) {
            BallotFruit x = quiet(0);
            for (int e = 1; e < 10; e++) {
                x.eater(7);
            }
            x.set(5, 9, hungers[i]);
            Check.dueText(x, 2, "on 0 cheese 9;", 1, 0, -1);
            x.weeks(1);
            Check.due("hunger", x.who(9, 0), due[i]);
            Check.due("the others", x.who(0, 0) * 10 + x.who(8, 0), 7);
        }
    }

    /** "HANGING is bear more (99 at most)". */
    private static void hangingIs99AtMost() {
        for (int hanging = 95; hanging <= 99; hanging++) {
            BallotFruit x = quiet(0);
            Check.tell(x, 0, "bear 3;");
            plantWith(x, 0, 0, hanging);
            plantWith(x, 0, 0, 0);
            x.weeks(1);
            Check.due("hanging", x.tree(0, 3), Math.min(99, hanging + 3));
            Check.due("from nothing", x.tree(1, 3), 3);
            x.weeks(60);
            Check.due("full", x.tree(0, 3) * 100 + x.tree(1, 3), 9999);
        }
    }

    /** "he would eat want fruits"; "Whoever would still eat then is HUNGRY." */
    private static void eatsAsManyAsWanted() {
        for (int want = 0; want <= 20; want++) {
            for (int hanging = Math.max(0, want - 1); hanging <= want + 1; hanging++) {
                BallotFruit x = quiet(want);
                plantWith(x, 0, 4, hanging);
                Check.tell(x, 1, "eater 0 by 4 4;");
                Check.due("hungry", x.weeks(1), hanging < want ? 1 : 0);
                Check.due("still hang", x.tree(0, 3), Math.max(0, hanging - want));
                Check.due("votes", x.of(0, 1), Math.min(want, hanging));
                Check.due("lines", x.look(8), hanging < want ? 2 : 1);
                if (hanging < want) {
                    dueLine(x, 1, 0, 5, 0, 1);
                }
            }
        }
    }

    /** "else on, at that PLACE till there is none for him": also if all trees stand there. */
    private static void eatsOfFourteenTrees() {
        for (int hunger = 13; hunger <= 15; hunger++) {
            BallotFruit x = quiet(hunger);
            for (int t = 0; t < 14; t++) {
                plantWith(x, t % 2, 9, 1);
            }
            x.taste(0, 1, 6);
            Check.tell(x, 1, "eater 0 by 9;");
            Check.due("hungry", x.weeks(1), hunger == 15 ? 1 : 0);
            Check.due("the better ones", x.of(1, 3) * 10 + x.of(1, 1), 7);
            Check.due("the other ones", x.of(0, 3) * 10 + x.of(0, 1), hunger == 13 ? 16 : 7);
            Check.due("the last of them", x.tree(12, 3), hunger == 13 ? 1 : 0);
        }
    }

    /** "(c) EATER by EATER". */
    private static void eaterByEater() {
        BallotFruit x = quiet(2);
        x.eater(2);
        plantWith(x, 0, 4, 3);
        Check.tell(x, 1, "eater 1 by 4; eater 0 by 4;");
        Check.due("one of both", x.weeks(1), 1);
        dueLine(x, 1, 0, 5, 1, 1);
        Check.due("both", x.weeks(1), 2);
        dueLine(x, 2, 1, 5, 0, 2);
        dueLine(x, 3, 1, 5, 1, 2);
    }

    /** "of a PARTY for which his TASTE is above 0 that of the PARTY with the greatest TASTE (of several the least TREE)". */
    private static void tasteAboveNothing() {
        for (int taste = 0; taste <= 9; taste++) {
            BallotFruit x = quiet(1);
            plantWith(x, 0, 4, 1);
            plantWith(x, 1, 4, 1);
            x.taste(0, 0, 0);
            x.taste(0, 1, taste);
            Check.tell(x, 1, "eater 0 by 4;");
            Check.due("hungry", x.weeks(1), taste == 0 ? 1 : 0);
            Check.due("never the first", x.tree(0, 3), 1);
            x.undo();
            x.taste(0, 0, 5);
            x.weeks(1);
            Check.due("the greater, or the least tree", x.tree(0, 3), taste > 5 ? 1 : 0);
            Check.due("and not both", x.of(0, 3) + x.of(1, 3), 1);
        }
    }

    /** "PLACE by PLACE of his PATH that is not FENCED". */
    private static void fencedPlaces() {
        for (int fenced = 0; fenced < 4; fenced++) {
            BallotFruit x = quiet(2);
            plantWith(x, 0, 0, 1);
            plantWith(x, 0, 9, 1);
            x.fence(0, fenced % 2 == 1);
            x.fence(9, fenced / 2 == 1);
            Check.tell(x, 1, "eater 0 by 9 0;");
            Check.due("hungry", x.weeks(1), fenced == 0 ? 0 : 1);
            Check.due("the first", x.tree(0, 3), fenced % 2);
            Check.due("the last", x.tree(1, 3), fenced / 2);
        }
    }

    /** "Who would still eat (and had no bad one): spoon by spoon of the PARTY with STORE". */
    private static void spoonsAsManyAsThereAre() {
        for (int store = 0; store <= 7; store++) {
            BallotFruit x = quiet(7);
            plantWith(x, 0, 4, 2);
            x.set(6, 0, store);
            Check.tell(x, 1, "eater 0 by 4;");
            Check.due("hungry", x.weeks(1), store < 5 ? 1 : 0);
            Check.due("store", x.of(0, 0), Math.max(0, store - 5));
            Check.due("votes", x.of(0, 1), 2 + Math.min(5, store));
            if (store < 5) {
                dueLine(x, 1, 0, 5, 0, 5 - store);
            }
        }
        BallotFruit x = quiet(20);
        x.set(6, 0, 999);
        x.set(6, 1, 999);
        x.weeks(1);
        Check.due("of a full store", x.of(0, 0) * 1000 + x.of(1, 0), 979999);
    }

    private static void spoonsOfFiveParties() {
        for (int hunger = 4; hunger <= 6; hunger++) {
            BallotFruit x = new BallotFruit();
            x.eater(hunger);
            for (int p = 0; p < 5; p++) {
                x.party(1);
                x.taste(0, p, 9 - p);
            }
            Check.due("hungry", x.weeks(1), hunger == 6 ? 1 : 0);
            for (int p = 0; p < 5; p++) {
                Check.due("a spoon of each", x.of(p, 0) * 10 + x.of(p, 1), hunger == 4 && p == 4 ? 10 : 1);
            }
        }
    }

    /** "for which his TASTE is greatest, above 0 (of several the least)". */
    private static void tasteForJamAboveNothing() {
        for (int taste = 0; taste <= 9; taste++) {
            BallotFruit x = quiet(1);
            x.set(6, 0, 1);
            x.set(6, 1, 1);
            x.taste(0, 0, 0);
            x.taste(0, 1, taste);
            Check.due("hungry", x.weeks(1), taste == 0 ? 1 : 0);
            Check.due("never the first", x.of(0, 0), 1);
            x.undo();
            x.taste(0, 0, 5);
            x.weeks(1);
            Check.due("the greater, or the least party", x.of(0, 0), taste > 5 ? 1 : 0);
            Check.due("and not both", x.of(0, 0) + x.of(1, 0), 1);
        }
    }

    /** "VOTES of the PARTY count more (9999 at most)": of fruit and of jam. */
    private static void votesAre9999AtMost() {
        for (int votes = 9994; votes <= 9999; votes++) {
            BallotFruit x = quiet(1);
            x.eater(1);
            plantWith(x, 0, 4, 9);
            x.set(6, 1, 9);
            x.set(7, 0, votes);
            x.set(7, 1, votes);
            Check.tell(x, 0, "bear 0; count 3;");
            Check.tell(x, 1, "eater 0 by 4;");
            x.taste(1, 0, 0);
            Check.due("in thought", x.goes(1, 0, 1) * 10000 + x.goes(1, 1, 1), Math.min(9999, votes + 3) * 10001);
            x.weeks(1);
            Check.due("fruit", x.of(0, 1), Math.min(9999, votes + 3));
            Check.due("jam", x.of(1, 1), Math.min(9999, votes + 3));
            Check.due("eaten all the same", x.tree(0, 3) * 10 + x.of(1, 0), 88);
        }
    }

    private static BallotFruit bad(int bad, int draw) {
        BallotFruit x = quiet(1);
        plantWith(x, 0, 4, 9);
        Check.tell(x, 1, "eater 0 by 4;");
        x.set(0, 0, bad);
        x.state(stateFor(draw));
        Check.due("nobody is hungry", x.weeks(1), 0);
        return x;
    }

    /** "a DRAW of 1000: below BAD it was a bad one". */
    private static void badOnesBelowBad() {
        int[][] cases = {{1, 0, 3}, {1, 1, 5}, {2, 1, 3}, {500, 499, 3}, {500, 500, 5}, {999, 998, 3}, {999, 999, 5}, {1000, 999, 3}};
        for (int[] c : cases) {
            BallotFruit x = bad(c[0], c[1]);
            Check.due("taste, BAD " + c[0] + ", draw " + c[1], x.who(0, 20), c[2]);
            Check.due("eaten and counted", x.tree(0, 3) * 10 + x.of(0, 1), 81);
            Check.due("lines", x.look(8), c[2] == 3 ? 2 : 1);
            if (c[2] == 3) {
                dueLine(x, 1, 0, 4, 0, 0);
            }
        }
    }

    /** "if BAD is above 0, a DRAW": else STATE stays. */
    private static void noDrawsWithoutBad() {
        Check.due("no draw", bad(0, 0).look(9), stateFor(0));
        Check.due("a draw", bad(1, 5).look(9), 1664525 * stateFor(5) + 1013904223);
        BallotFruit x = quiet(3);
        x.set(0, 0, 1000);
        x.set(6, 0, 9);
        x.weeks(1);
        Check.due("no draws for jam", x.look(9), 0);
    }

    /** "TASTE for that PARTY is 2 less (0 at least)". */
    private static void tasteIsTwoLess() {
        int[] due = {0, 0, 0, 1, 2, 3, 4, 5, 6, 7};
        for (int taste = 1; taste <= 9; taste++) {
            BallotFruit x = quiet(5);
            plantWith(x, 1, 4, 9);
            x.taste(0, 1, taste);
            x.set(0, 0, 1000);
            x.set(6, 0, 9);
            Check.tell(x, 1, "eater 0 by 4 4 4;");
            Check.due("not hungry", x.weeks(1), 0);
            Check.due("taste", x.who(0, 21), due[taste]);
            Check.due("for the other", x.who(0, 20), 5);
            Check.due("he eats no more, no jam either", x.tree(0, 3) * 10 + x.of(0, 0), 89);
            dueLine(x, 1, 0, 4, 0, 1);
        }
    }

    /** A bad one that is the last he would eat, or the last that hangs. */
    private static void aBadLastOne() {
        for (int hunger = 1; hunger <= 2; hunger++) {
            BallotFruit x = quiet(hunger);
            plantWith(x, 0, 4, 1);
            x.set(0, 0, 1000);
            Check.tell(x, 1, "eater 0 by 4;");
            Check.due("not hungry", x.weeks(1), 0);
            Check.due("lines", x.look(8), 2);
            dueLine(x, 1, 0, 4, 0, 0);
            Check.due("hungry in the next week", x.weeks(1), 1);
        }
    }

    private static BallotFruit wasps(int wasps, int draw, int hanging) {
        BallotFruit x = quiet(0);
        plantWith(x, 0, 4, hanging);
        x.set(1, 0, wasps);
        x.state(stateFor(draw));
        x.weeks(1);
        return x;
    }

    /** "a DRAW of 1000: below WASPS a tenth of it is gone". */
    private static void waspsBelowWasps() {
        int[][] cases = {{1, 0, 9}, {1, 1, 10}, {2, 1, 9}, {500, 499, 9}, {500, 500, 10}, {999, 998, 9}, {999, 999, 10}, {1000, 999, 9}};
        for (int[] c : cases) {
            BallotFruit x = wasps(c[0], c[1], 10);
            Check.due("hanging, WASPS " + c[0] + ", draw " + c[1], x.tree(0, 3), c[2]);
            Check.due("lines", x.look(8), c[2] == 9 ? 2 : 1);
            if (c[2] == 9) {
                dueLine(x, 1, 0, 6, 0, 1);
            }
        }
    }

    /** "TREE by TREE with 10 HANGING at least". */
    private static void waspsFromTenHanging() {
        int[] hanging = {0, 9, 10, 11, 19, 20, 29, 90, 99};
        int[] gone = {0, 0, 1, 1, 1, 2, 2, 9, 9};
        for (int i = 0; i < hanging.length; i++) {
            BallotFruit x = wasps(1000, 7, hanging[i]);
            Check.due("of " + hanging[i], x.tree(0, 3), hanging[i] - gone[i]);
            boolean isDrawn = x.look(9) != stateFor(7);
            Check.due("drawn for " + hanging[i], isDrawn, hanging[i] >= 10);
            Check.due("lines", x.look(8), gone[i] > 0 ? 2 : 1);
            if (gone[i] > 0) {
                dueLine(x, 1, 0, 6, 0, gone[i]);
            }
        }
    }

    /** "If WASPS are above 0". */
    private static void noDrawsWithoutWasps() {
        BallotFruit x = wasps(0, 0, 99);
        Check.due("no draw", x.look(9), stateFor(0));
        Check.due("all hang", x.tree(0, 3), 99);
    }

    /** "EVERY 1 .. 52": at 1 there are SEATS each week. */
    private static void everyWeek() {
        BallotFruit x = quiet(0);
        x.set(3, 0, 1);
        for (int week = 0; week < 3; week++) {
            x.set(7, week % 2, 5);
            x.weeks(1);
            Check.due("seats", x.of(week % 2, 2) * 10 + x.of(1 - week % 2, 2), 90);
            Check.due("votes are 0 then", x.of(0, 1) + x.of(1, 1), 0);
            dueLine(x, week, week, 7, week % 2, 9);
        }
    }

    /** "Is WEEK + 1 a multiple of EVERY". */
    private static void everyFiftyTwoWeeks() {
        BallotFruit x = quiet(0);
        x.set(7, 1, 5);
        x.weeks(51);
        Check.due("not yet", x.of(1, 2) + x.look(8), 0);
        Check.due("votes", x.of(1, 1), 5);
        x.weeks(1);
        Check.due("seats", x.of(1, 2) * 10 + x.of(1, 1), 90);
        dueLine(x, 0, 51, 7, 1, 9);
        x.weeks(51);
        Check.due("not yet", x.look(8), 1);
        x.weeks(1);
        dueLine(x, 1, 103, 7, 1, 9);
        BallotFruit y = new BallotFruit();
        y.weeks(3);
        Check.due("four at first: not yet", y.look(8), 0);
        y.weeks(1);
        Check.due("four at first", y.look(8), 1);
        y.weeks(1);
        y.set(3, 0, 3);
        y.weeks(1);
        Check.due("by WEEK, not since it was told", y.look(8), 2);
        Check.due("its week", y.book(1, 0), 5);
    }

    /** "is it a multiple of 52 then, AGE of all TREES is one more". */
    private static void aYearHas52Weeks() {
        BallotFruit x = quiet(0);
        x.plant(0, 0, 0);
        Check.tell(x, 2, "on 51 plant 0 at 1; on 52 plant 0 at 2;");
        x.weeks(51);
        Check.due("51", x.tree(0, 2), 0);
        x.weeks(1);
        Check.due("52", x.tree(0, 2), 1);
        Check.due("planted in that week", x.tree(1, 2), 1);
        x.weeks(51);
        Check.due("103", x.tree(0, 2) * 100 + x.tree(1, 2) * 10 + x.tree(2, 2), 110);
        x.weeks(1);
        Check.due("104", x.tree(0, 2) * 100 + x.tree(1, 2) * 10 + x.tree(2, 2), 221);
    }

    /** "(99 at most)". */
    private static void ageIs99AtMost() {
        BallotFruit x = quiet(0);
        x.plant(0, 0, 97);
        x.plant(0, 0, 98);
        x.plant(0, 0, 99);
        x.weeks(52);
        Check.due("a year", x.tree(0, 2) * 10000 + x.tree(1, 2) * 100 + x.tree(2, 2), 989999);
        x.weeks(52);
        Check.due("two years", x.tree(0, 2) * 10000 + x.tree(1, 2) * 100 + x.tree(2, 2), 999999);
    }

    private static int seats(BallotFruit x) {
        int v = 0;
        for (int p = 0; p < x.look(0); p++) {
            v = v * 100 + x.of(p, 2);
        }
        return v;
    }

    /** "CHAIRS 1 .. 99 (9 at first)". */
    private static void chairsFromOneTo99() {
        int[] chairs = {1, 2, 9, 98, 99};
        // of 5 votes 2 and 3: 0.4 and 0.6; 0.8 and 1.2; 3.6 and 5.4; 39.2 and 58.8; 39.6 and 59.4
        int[] due = {1, 101, 405, 3959, 4059};
        for (int i = 0; i < chairs.length; i++) {
            BallotFruit x = quiet(0);
            x.set(2, 0, chairs[i]);
            x.set(3, 0, 1);
            x.set(7, 0, 2);
            x.set(7, 1, 3);
            Check.due("falls", x.falls(0) * 100 + x.falls(1), due[i]);
            x.weeks(1);
            Check.due("seats of " + chairs[i], seats(x), due[i]);
        }
    }

    /** "No VOTES at all: SEATS stay." */
    private static void seatsWithoutVotes() {
        BallotFruit x = quiet(0);
        x.set(3, 0, 1);
        x.weeks(1);
        Check.due("none at first", seats(x), 0);
        dueLine(x, 0, 0, 7, 0, 0);
        x.set(7, 1, 1);
        x.weeks(1);
        Check.due("one vote has all", seats(x), 9);
        x.set(2, 0, 50);
        x.weeks(1);
        Check.due("they stay", seats(x), 9);
        Check.due("in thought they stay", x.falls(0) * 10 + x.falls(1), 9);
        dueLine(x, 2, 2, 7, 1, 9);
        BallotFruit none = new BallotFruit();
        none.set(3, 0, 1);
        Check.due("without parties", none.weeks(1), 0);
        dueLine(none, 0, 0, 7, -1, 0);
    }

    private static void theGreatestVotes() {
        BallotFruit x = new BallotFruit();
        x.set(2, 0, 99);
        x.set(3, 0, 1);
        for (int p = 0; p < 5; p++) {
            x.party(0);
            x.set(7, p, 9999);
        }
        x.weeks(1);
        Check.due("19 and four that are left", seats(x), 2020202019);
        for (int p = 0; p < 5; p++) {
            x.set(7, p, 9998 + (p == 4 ? 1 : 0));
        }
        x.weeks(1);
        Check.due("by one vote more the greatest remainder", seats(x), 2020201920);
    }

    private static BallotFruit written(int lines) {
        BallotFruit x = new BallotFruit();
        for (int i = 0; i < lines; i++) {
            x.fence(i % 10, i / 10 % 2 == 0);
        }
        Check.due("lines", x.look(8), lines);
        return x;
    }

    /** "THE BOOK (150 lines; no more then)". */
    private static void theBookHas150Lines() {
        BallotFruit x = written(149);
        x.party(0);
        Check.due("the 150th", x.plant(0, 0, 0), 0);
        dueLine(x, 149, 0, 0, 0, 0);
        Check.due("150", x.look(8), 150);
        Check.due("what isn't written is done", x.plant(0, 0, 0), 1);
        Check.due("what isn't written is done", x.fence(0, true) || x.fence(0, false), true);
        Check.due("what isn't written is done", x.boil(0, 5), 0);
        Check.due("no more", x.look(8), 150);
        Check.due("no line 150", x.book(150, 0), -1);
        dueLine(x, 149, 0, 0, 0, 0);
        Check.due("undone", x.undo() && x.undo() && x.undo(), true);
        Check.due("it was full before them", x.look(8), 150);
        Check.due("undone", x.undo(), true);
        Check.due("one less", x.look(8), 149);
        Check.due("there is none now", x.book(149, 0), -1);
        Check.due("another", x.fence(9, true), true);
        dueLine(x, 149, 0, 1, 9, 0);
    }

    private static void theBookIsFullInAWeek() {
        BallotFruit x = written(148);
        for (int e = 0; e < 4; e++) {
            x.eater(e + 1);
        }
        x.set(3, 0, 1);
        Check.due("four are hungry", x.weeks(1), 4);
        Check.due("150", x.look(8), 150);
        dueLine(x, 148, 0, 5, 0, 1);
        dueLine(x, 149, 0, 5, 1, 2);
        Check.due("hungry, though not written", x.weeks(2), 8);
        dueLine(x, 149, 0, 5, 1, 2);
        Check.due("undone", x.undo() && x.undo() && x.undo(), true);
        Check.due("two less", x.look(8), 148);
    }

    /** Each what with the last number that its who may have. */
    private static void theBookNamesTheLast() {
        BallotFruit x = new BallotFruit();
        for (int p = 0; p < 5; p++) {
            x.party(0);
        }
        for (int e = 0; e < 10; e++) {
            x.eater(e == 9 ? 20 : 0);
        }
        for (int t = 0; t < 13; t++) {
            x.plant(0, 0, 0);
        }
        Check.tell(x, 0, "bear 0;");
        x.plant(4, 9, 0);
        dueLine(x, 13, 0, 0, 13, 0);
        x.fence(9, true);
        dueLine(x, 14, 0, 1, 9, 0);
        x.fence(9, false);
        dueLine(x, 15, 0, 2, 9, 0);
        x.set(4, 13, 99);
        x.boil(4, 99);
        dueLine(x, 16, 0, 3, 4, 99);
        x.set(6, 4, 0);
        x.set(4, 13, 99);
        x.set(0, 0, 1000);
        x.set(1, 0, 1000);
        x.set(3, 0, 1);
        x.set(2, 0, 99);
        Check.tell(x, 1, "eater 9 by 9;");
        x.weeks(1);
        dueLine(x, 17, 0, 4, 9, 4);
        dueLine(x, 18, 0, 6, 13, 9);
        dueLine(x, 19, 0, 7, 4, 99);
        Check.tell(x, 1, "");
        x.weeks(1);
        dueLine(x, 20, 1, 5, 9, 20);
    }
}
