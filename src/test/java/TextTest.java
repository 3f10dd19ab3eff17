/** Promises 13, 14 and part 2 of the terms: the three texts, their faults, and what the law tells. */
public final class TextTest {
    private static final String NOT8 = "not not not not not not not not ";

    public static void main(String[] args) {
        faultsOfTheLaw();
        depthOfTheLaw();
        linesOfTheLaw();
        valuesOfTheLaw();
        conditionsOfTheLaw();
        whatBearAsks();
        whatWantAsks();
        whatCountAsks();
        paths();
        faultsOfPaths();
        faultsOfThePlan();
        theTapeBehindATextThatIsNot();
        Check.finish();
    }

    private static BallotFruit small() {
        BallotFruit x = new BallotFruit();
        x.party(0);
        x.party(0);
        x.eater(3);
        x.eater(4);
        x.plant(1, 6, 40);
        return x;
    }

    private static void faultsOfTheLaw() {
        BallotFruit x = small();
        Check.dueText(x, 0, "bear", -1, 1, 4);
        Check.dueText(x, 0, "bear 1", -1, 1, 6);
        Check.dueText(x, 0, "bear 1  ", -1, 1, 8);
        Check.dueText(x, 0, "Bear 1;", -1, 1, 0);
        Check.dueText(x, 0, "bearX 1;", -1, 1, 0);
        Check.dueText(x, 0, "bear 1 when;", -1, 1, 11);
        Check.dueText(x, 0, "bear 1 when 1;", -1, 1, 13);
        Check.dueText(x, 0, "bear 1 when 1<;", -1, 1, 14);
        Check.dueText(x, 0, "bear 1 when 1<2 3;", -1, 1, 16);
        Check.dueText(x, 0, "bear 1 when (1<2;", -1, 1, 16);
        Check.dueText(x, 0, "bear 1 when 1<2);", -1, 1, 15);
        Check.dueText(x, 0, "bear 1 when (1)<2;", -1, 1, 14);
        Check.dueText(x, 0, "bear (1);", -1, 1, 5);
        Check.dueText(x, 0, "bear -1;", -1, 1, 5);
        Check.dueText(x, 0, "bear 1 + ;", -1, 1, 9);
        Check.dueText(x, 0, "bear 1 / age;", -1, 1, 9);
        Check.dueText(x, 0, "bear 1 / 0 + ;", -1, 2, 9);
        Check.dueText(x, 0, "bear 1 / 000;", -1, 2, 9);
        Check.dueText(x, 0, "bear 1 / 00001;", -1, 1, 9);
        Check.dueText(x, 0, "bear 00001;", -1, 1, 5);
        Check.dueText(x, 0, "bear 1; ;", -1, 1, 8);
        Check.dueText(x, 0, "bear eater;", -1, 1, 5);
        Check.dueText(x, 0, "bear 1 when age<2 and or age<3;", -1, 1, 22);
        Check.dueText(x, 0, "bear 1\t;", -1, 1, 6);
        Check.dueText(x, 0, "bear 1, ;", -1, 1, 6);
        Check.dueText(x, 0, "bear 1\u00E9;", -1, 1, 6);
        Check.dueText(x, 0, "bearz 1;", -1, 1, 0);
        Check.dueText(x, 0, "bearZ 1;", -1, 1, 0);
        Check.dueText(x, 0, "bearA 1;", -1, 1, 0);
        Check.dueText(x, 0, "bear 1;\0", -1, 1, 7);
        Check.dueText(x, 0, "bear \1;", -1, 1, 5);
        Check.dueText(x, 0, "bear \2;", -1, 1, 5);
        Check.dueText(x, 0, ";".repeat(400), -1, 1, 0);
        Check.dueText(x, 0, "bear 1" + "+1".repeat(197), -1, 1, 400);
        Check.due("it stays as it was", x.look(10), 0);
        Check.dueText(x, 0, "bear1;\nwant 2 when1<2;count\n9999*0007/3-week;", 3, 0, -1);
        Check.due("lines", x.look(10), 3);
        Check.dueText(x, 0, "bear", -1, 1, 4);
        Check.due("it stays as it was", x.look(10), 3);
        Check.due("another what", x.fault(2), -1);
        Check.due("another what", x.fault(-1), -1);
    }

    private static void depthOfTheLaw() {
        BallotFruit x = small();
        Check.dueText(x, 0, "bear 1 when ((((((((1<2))))))));", 1, 0, -1);
        Check.dueText(x, 0, "bear 1 when (((((((((1<2)))))))));", -1, 3, 20);
        Check.dueText(x, 0, "bear 1 when " + NOT8 + "1<2;", 1, 0, -1);
        Check.dueText(x, 0, "bear 1 when " + NOT8 + "(1<2);", -1, 3, 44);
        Check.dueText(x, 0, "bear 1 when " + NOT8 + "1<2 and " + NOT8 + "1<2 and " + NOT8 + "1<2;", 1, 0, -1);
        Check.dueText(x, 0, "bear 1 when (not(not(not(not 1<2 and not 1<2))));", 1, 0, -1);
        Check.dueText(x, 0, "bear 1 when (not(not(not(not 1<2 and not (1<2)))));", -1, 3, 41);
        Check.dueText(x, 0, "bear 1 when (((((((( ;", -1, 1, 21);
    }

    private static void linesOfTheLaw() {
        BallotFruit x = small();
        String sixteen = "want 1;".repeat(16);
        Check.dueText(x, 0, sixteen, 16, 0, -1);
        Check.dueText(x, 0, sixteen + " bear", -1, 3, 113);
        Check.dueText(x, 0, sixteen + " when", -1, 1, 113);
        Check.dueText(x, 0, sixteen + "5", -1, 1, 112);
        Check.due("it stays as it was", x.look(10), 16);
    }

    private static int bear(BallotFruit x, String e) {
        int lines = Check.tell(x, 0, "bear " + e + ";");
        return lines == 1 ? x.tree(0, 4) : -2;
    }

    private static void valuesOfTheLaw() {
        BallotFruit x = small();
        Check.due("no line: age by 5", x.tree(0, 4), 8);
        Check.due("product first", bear(x, "1+2*3"), 7);
        Check.due("from the left", bear(x, "20-5-4"), 11);
        Check.due("from the left", bear(x, "20/3*2"), 12);
        Check.due("from the left", bear(x, "2*20/3"), 13);
        Check.due("mixed", bear(x, "1+2*3-4*5/7+9"), 14);
        Check.due("minus then product", bear(x, "50-2*3*4+1"), 27);
        Check.due("part inside a sum", bear(x, "0-7/2*1+40"), 37);
        Check.due("part inside a sum", bear(x, "age-47*1/2*1+0"), 17);
        Check.due("a product's sign stays inside", bear(x, "9*week-7/3+5"), 3);
        Check.due("held below", bear(x, "0-1"), 0);
        Check.due("held above", bear(x, "9999"), 99);
        // the third power of 9999 wraps to -1027349969; downwards it would be -11
        Check.due("ints wrap, towards 0", bear(x, "50+9999*9999*9999/9999/9999"), 40);
        Check.due("the fourth wraps to 1089432001", bear(x, "9999*9999*9999*9999/9999/9999"), 10);
        Check.due("part by 1", bear(x, "7/1"), 7);
        Check.due("a whole tape", bear(x, "age-40+1-1" + "+0".repeat(190)), 0);
        Check.due("leading zeros", bear(x, "0012"), 12);
    }

    private static int when(BallotFruit x, String b) {
        int lines = Check.tell(x, 0, "bear 1 when " + b + "; bear 2;");
        return lines == 2 ? x.tree(0, 4) : -2;
    }

    private static void conditionsOfTheLaw() {
        BallotFruit x = small();
        String t = "1=1";
        String f = "1=2";
        Check.due("less", when(x, "1<2"), 1);
        Check.due("less", when(x, "2<2"), 2);
        Check.due("like", when(x, "2=2"), 1);
        Check.due("more", when(x, "3>2"), 1);
        Check.due("more", when(x, "2>2"), 2);
        Check.due("or and", when(x, t + " or " + f + " and " + f), 1);
        Check.due("and or", when(x, f + " and " + f + " or " + t), 1);
        Check.due("or or", when(x, f + " or " + f + " or " + t), 1);
        Check.due("or and or", when(x, f + " or " + t + " and " + f + " or " + f), 2);
        Check.due("( ) first", when(x, "(" + t + " or " + f + ") and " + f), 2);
        Check.due("not is of one", when(x, "not " + t + " or " + t), 1);
        Check.due("not is of one", when(x, "not " + f + " and " + f), 2);
        Check.due("not of all", when(x, "not (" + f + " and " + f + ")"), 1);
        Check.due("not not", when(x, "not not " + t), 1);
        Check.due("sums compared", when(x, "1+1*2>4-2"), 1);
        Check.due("or or or", when(x, f + " or " + t + " or " + f + " or " + f), 1);
        String half = f + " or " + t + " and (";
        String deep = half.repeat(8) + f + " or " + t + " and 1+2*3=7";
        Check.due("as deep as can be", when(x, deep + ")".repeat(8)), 1);
        Check.due("as deep as can be", when(x, deep + "+1" + ")".repeat(8)), 2);
        Check.tell(x, 0, "bear 3 when 1>2;".repeat(15) + "bear 6 when 2>1;");
        Check.due("the sixteenth line", x.tree(0, 4), 6);
        Check.tell(x, 0, "want 7; bear 3 when 1>2; bear 4 when 2>1; bear 5; want 8;");
        Check.due("the first that is so", x.tree(0, 4), 4);
        Check.due("the first of its word", x.who(0, 1), 7);
        Check.tell(x, 0, "bear 3 when 1>2; want 9 when 1>2;");
        Check.due("none is so: age by 5", x.tree(0, 4), 8);
        Check.due("none is so: hunger", x.who(0, 1), 3);
    }

    private static void whatBearAsks() {
        BallotFruit x = small();
        x.set(4, 0, 13);
        x.set(7, 1, 50);
        x.set(3, 0, 1);
        x.weeks(1);
        x.set(3, 0, 52);
        x.weeks(52);
        x.set(4, 0, 13);
        Check.due("seats", x.of(1, 2), 9);
        Check.due("week", bear(x, "week"), 1);
        Check.due("party", bear(x, "party"), 1);
        Check.due("place", bear(x, "place"), 6);
        Check.due("age", bear(x, "age"), 41);
        Check.due("hanging", bear(x, "hanging"), 13);
        Check.due("seats", bear(x, "seats"), 9);
        Check.due("the rest", bear(x, "hunger+taste+jam"), 0);
    }

    private static void whatWantAsks() {
        BallotFruit x = small();
        x.set(3, 0, 1);
        x.set(7, 1, 50);
        x.weeks(5);
        Check.tell(x, 0, "want hunger*3;");
        Check.due("hunger", x.who(1, 1), 12);
        Check.tell(x, 0, "want week;");
        Check.due("week", x.who(1, 1), 5);
        Check.tell(x, 0, "want 3+party+place+age+hanging+taste+jam+seats;");
        Check.due("the rest", x.who(1, 1), 3);
        Check.tell(x, 0, "want 21;");
        Check.due("held above", x.who(1, 1), 20);
        Check.tell(x, 0, "want 0-1;");
        Check.due("held below", x.who(1, 1), 0);
    }

    /** What one fruit of tree 0 (party 1, place 6, age 40, 8 hanging ahead) counts. */
    private static int fruit(String e) {
        BallotFruit x = eaterAtTheTree(e);
        x.set(4, 0, 8);
        x.weeks(1);
        return x.of(1, 1);
    }

    private static int spoon(String e) {
        BallotFruit x = eaterAtTheTree(e);
        x.set(6, 1, 1);
        x.weeks(1);
        return x.of(1, 1);
    }

    private static BallotFruit eaterAtTheTree(String e) {
        BallotFruit x = small();
        x.set(3, 0, 1);
        x.set(2, 0, 4);
        x.set(7, 1, 1);
        x.set(5, 0, 0);
        x.set(5, 1, 0);
        Check.tell(x, 0, "bear 0;");
        x.weeks(3);
        x.set(3, 0, 52);
        x.set(5, 1, 1);
        x.taste(1, 1, 7);
        Check.tell(x, 1, "eater 1 by 6;");
        Check.due("lines of " + e, Check.tell(x, 0, "bear 0; count " + e + ";"), 2);
        return x;
    }

    private static void whatCountAsks() {
        Check.due("hunger", fruit("hunger"), 1);
        Check.due("party", fruit("party"), 1);
        Check.due("taste", fruit("taste"), 7);
        Check.due("seats", fruit("seats"), 4);
        Check.due("place", fruit("place"), 6);
        Check.due("age", fruit("age/8"), 5);
        Check.due("hanging ahead of it", fruit("hanging"), 8);
        Check.due("week", fruit("week"), 3);
        Check.due("no jam", fruit("jam+2"), 2);
        Check.due("held above", fruit("10"), 9);
        Check.due("held below", fruit("0-1"), 0);
        BallotFruit x = eaterAtTheTree("hanging");
        x.set(4, 0, 5);
        x.set(5, 1, 3);
        Check.due("hanging, fruit by fruit", x.goes(1, 1, 1), 12);
        Check.tell(x, 0, "bear 0; want hanging+2; count week;");
        Check.due("without hanging", x.goes(1, 1, 1), 6);
        x.image(true);
        Check.tell(x, 0, "bear 0; count 9; count hanging;");
        x.image(false);
        Check.tell(x, 0, "bear 0; count hanging-1;");
        x.image(true);
        Check.tell(x, 0, "");
        x.image(false);
        Check.due("hanging, in the image", x.goes(1, 1, 1), 9);
        Check.due("hunger", spoon("hunger"), 1);
        Check.due("party", spoon("party"), 1);
        Check.due("taste", spoon("taste"), 7);
        Check.due("seats", spoon("seats"), 4);
        Check.due("these are 0 of jam", spoon("1+place+age+hanging"), 1);
        Check.due("week", spoon("week"), 3);
        Check.due("jam", spoon("jam*5"), 5);
    }

    private static void paths() {
        BallotFruit x = small();
        Check.dueText(x, 1, "eater 0 by 1 2; eater 1 by 3; eater 0 by 9 0 9 0 9 0 9 0;", 3, 0, -1);
        Check.due("the last line of one eater", x.who(0, 2), 8);
        Check.due("first", x.who(0, 10), 9);
        Check.due("last", x.who(0, 17), 0);
        Check.due("none behind it", x.who(0, 18), -1);
        Check.due("lines", x.look(11), 3);
        Check.dueText(x, 1, "eater0by4;", 1, 0, -1);
        Check.due("the other has none now", x.who(1, 2), 0);
        Check.due("none of none", x.who(1, 10), -1);
        Check.due("one", x.who(0, 10), 4);
        Check.due("no second", x.who(0, 11), -1);
    }

    private static void faultsOfPaths() {
        BallotFruit x = small();
        Check.dueText(x, 1, "eater 2 by 0;", -1, 2, 6);
        Check.dueText(x, 1, "eater 0 by 10;", -1, 2, 11);
        Check.dueText(x, 1, "eater 0 by 0 10 11;", -1, 2, 13);
        Check.dueText(x, 1, "eater 0 by 00001;", -1, 1, 11);
        Check.dueText(x, 1, "eater 0 by;", -1, 1, 10);
        Check.dueText(x, 1, "eater 0 by", -1, 1, 10);
        Check.dueText(x, 1, "eater by 0;", -1, 1, 6);
        Check.dueText(x, 1, "eater 0 0;", -1, 1, 8);
        Check.dueText(x, 1, "eater 0 by 1 by;", -1, 1, 13);
        Check.dueText(x, 1, "week 0 by 1;", -1, 1, 0);
        Check.dueText(x, 1, "eater 0 by 0 1 2 3 4 5 6 7 8;", -1, 3, 27);
        Check.dueText(x, 1, "eater 0 by 0 1 2 3 4 5 6 7 10;", -1, 2, 27);
        Check.dueText(x, 1, "eater 0 by 0 1 2 3 4 5 6 7 00008;", -1, 1, 27);
        String sixteen = "eater 0 by 0;".repeat(16);
        Check.dueText(x, 1, sixteen, 16, 0, -1);
        Check.dueText(x, 1, sixteen + "eater 0 by 0;", -1, 3, 208);
        Check.dueText(x, 1, sixteen + ";", -1, 1, 208);
        Check.due("it stays as it was", x.look(11), 16);
    }

    private static void faultsOfThePlan() {
        BallotFruit x = small();
        Check.dueText(x, 2, "on 999 plant 1 at 9;on 0 boil 1 99;on 0 boil 0 1;on 7 cheese 1;on 1 open 0;on 2 fence 9;", 6, 0, -1);
        Check.due("lines", x.look(12), 6);
        Check.dueText(x, 2, "on 1000 fence 0;", -1, 2, 3);
        Check.dueText(x, 2, "on 0 plant 2 at 0;", -1, 2, 11);
        Check.dueText(x, 2, "on 0 plant 1 at 10;", -1, 2, 16);
        Check.dueText(x, 2, "on 0 plant 1 0;", -1, 1, 13);
        Check.dueText(x, 2, "on 0 plant 1 at;", -1, 1, 15);
        Check.dueText(x, 2, "on 0 fence 10;", -1, 2, 11);
        Check.dueText(x, 2, "on 0 open 10;", -1, 2, 10);
        Check.dueText(x, 2, "on 0 boil 2 1;", -1, 2, 10);
        Check.dueText(x, 2, "on 0 boil 1 0;", -1, 2, 12);
        Check.dueText(x, 2, "on 0 boil 1 100;", -1, 2, 12);
        Check.dueText(x, 2, "on 0 boil 1;", -1, 1, 11);
        Check.dueText(x, 2, "on 0 cheese 2;", -1, 2, 12);
        Check.dueText(x, 2, "on 0 cheese 1 1;", -1, 1, 14);
        Check.dueText(x, 2, "on 0 at 1;", -1, 1, 5);
        Check.dueText(x, 2, "on 0 on 1;", -1, 1, 5);
        Check.dueText(x, 2, "on fence 1;", -1, 1, 3);
        Check.dueText(x, 2, "on 0 fence 1", -1, 1, 12);
        Check.dueText(x, 2, "plant 0 at 1;", -1, 1, 0);
        Check.due("it stays as it was", x.look(12), 6);
        String sixteen = "on 0 open 1;".repeat(16);
        Check.dueText(x, 2, sixteen, 16, 0, -1);
        Check.dueText(x, 2, sixteen + "on", -1, 3, 192);
        BallotFruit y = new BallotFruit();
        Check.dueText(y, 1, "eater 0 by 0;", -1, 2, 6);
        Check.dueText(y, 2, "on 0 boil 0 1;", -1, 2, 10);
        Check.dueText(y, 2, "on 0 cheese 0;", -1, 2, 12);
    }

    private static void theTapeBehindATextThatIsNot() {
        BallotFruit x = small();
        Check.dueText(x, 0, "bear", -1, 1, 4);
        Check.due("empty behind a fault", x.end(1), false);
        Check.dueText(x, 3, "bear 1;", -1, 0, -1);
        Check.dueText(x, -1, "bear 1;", -1, 0, -1);
        Check.due("empty without such a text", x.end(1), false);
        Check.due("nothing is told", x.look(10), 0);
        Check.dueText(x, 0, "bear 1;", 1, 0, -1);
        Check.due("empty behind a text", x.end(1), false);
        x.feed(0, 0, 0, 0, 0);
        Check.due("no such text", x.text(3), -1);
        Check.due("from its beginning", x.feed(0, 0, 0, 0, 0), 20);
    }
}
