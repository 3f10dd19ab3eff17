/**
 * Part 2 of the terms and promises 13 and 14: each bound of the three TEXTS at the last that may be and at the
 * first that may not, each FAULT at its place, what wraps, what is held; and that behind a FAULT the TEXT stays.
 */
public final class TextBoundsTest {
    private static final String MAX = "2147*1000*1000+483*1000+647";
    private static final String MIN = "0-2147*1000*1000-483*1000-648";
    private static final String[] TEXTS = {
        "bear 12+age*3/40-week when not (hanging<5 and seats=2) or place>1 ;\nwant hunger;\n"
            + "count taste+jam when party=0;",
        "eater 0 by 1 2 3;\neater 1 by 9 ; eater 0 by 1 1 1 1 1 1 1 1;",
        "on 12 plant 1 at 3;on 999 fence 9 ;\non 0 open 0; on 7 boil 0 12;on 3 cheese 1;"};
    private static final String[] LINES = {"want 2;", "eater 1 by 2;", "on 3 open 4;"};
    private static final String[] WORDS = {"want", "eater", "on"};

    public static void main(String[] args) {
        emptyTexts();
        theEndOfEachPrefix();
        sixteenLines();
        theSixteenthLineCounts();
        numbersOfOneToFourDigits();
        aPartByNothing();
        eatersAndPlacesOfPaths();
        placesOfAPath();
        whoIsNotNamedHasNoPath();
        numbersOfAPlan();
        whomAPlanNames();
        openOnes();
        openOnesThatAreClosed();
        theFirstFaultByItsPlace();
        theLeastFaultAtOnePlace();
        signsAndBlanks();
        lettersThatStandTogether();
        keywordsOfAnotherText();
        noSuchText();
        behindAFaultAllStays();
        faultOfTheLatestText();
        intsWrap();
        partsGoTowardsNothing();
        comparisonsOfTheGreatest();
        eachOfBothSides();
        bearIsHeld();
        wantIsHeld();
        countIsHeld();
        noLineIsSo();
        weekModulo52();
        whatIsAskedAtItsMost();
        wantAsksForNoParty();
        hangingAheadOfEachFruit();
        Check.finish();
    }

    /** Two parties, two eaters, a tree of each. */
    private static BallotFruit small() {
        BallotFruit x = new BallotFruit();
        x.party(0);
        x.party(0);
        x.eater(3);
        x.eater(4);
        x.plant(0, 1, 40);
        x.plant(1, 6, 41);
        return x;
    }

    /** "TEXTS (empty at first)": none of them has a line, also behind blanks alone. */
    private static void emptyTexts() {
        for (int k = 0; k < 3; k++) {
            BallotFruit x = small();
            Check.due("no line at first", x.look(10 + k), 0);
            Check.dueText(x, k, "", 0, 0, -1);
            Check.dueText(x, k, LINES[k], 1, 0, -1);
            Check.dueText(x, k, " \n".repeat(200), 0, 0, -1);
            Check.due("empty again", x.look(10 + k), 0);
        }
    }

    /** "1 what can't stand there (the end: the text's length)": each text cut everywhere. */
    private static void theEndOfEachPrefix() {
        for (int k = 0; k < 3; k++) {
            String s = TEXTS[k];
            for (int n = 0; n <= s.length(); n++) {
                String cut = s.substring(0, n);
                int word = n;
                while (word > 0 && Character.isLetter(s.charAt(word - 1))) {
                    word--;
                }
                boolean isHalf = word < n && n < s.length() && Character.isLetter(s.charAt(n));
                boolean isWhole = cut.isBlank() || cut.stripTrailing().endsWith(";");
                int lines = (int) cut.chars().filter(c -> c == ';').count();
                if (isWhole) {
                    Check.dueText(small(), k, cut, lines, 0, -1);
                } else {
                    Check.dueText(small(), k, cut, -1, 1, isHalf ? word : n);
                }
            }
        }
    }

    /** "16 lines of each at most"; "3 (at its KEYWORD) the 17th line of a text". */
    private static void sixteenLines() {
        for (int k = 0; k < 3; k++) {
            BallotFruit x = small();
            String sixteen = LINES[k].repeat(16);
            int n = sixteen.length();
            Check.dueText(x, k, LINES[k].repeat(15), 15, 0, -1);
            Check.dueText(x, k, sixteen, 16, 0, -1);
            Check.due("sixteen", x.look(10 + k), 16);
            Check.dueText(x, k, sixteen + LINES[k], -1, 3, n);
            Check.dueText(x, k, sixteen + "  " + WORDS[k], -1, 3, n + 2);
            Check.dueText(x, k, sixteen + " ;", -1, 1, n + 1);
            Check.dueText(x, k, sixteen + " by", -1, 1, n + 1);
            Check.dueText(x, k, sixteen + " \n", 16, 0, -1);
            Twin.dueFault("the 17th line", Twin::some, k, sixteen + LINES[k], 3, n);
        }
    }

    private static void theSixteenthLineCounts() {
        BallotFruit x = small();
        Check.dueText(x, 0, "bear 1 when 1<0;".repeat(15) + "bear 77;", 16, 0, -1);
        Check.due("bear", x.tree(0, 4), 77);
        Check.dueText(x, 1, "eater 0 by 1;".repeat(15) + "eater 0 by 9 8;", 16, 0, -1);
        Check.due("the last line of several", x.who(0, 2) * 100 + x.who(0, 10) * 10 + x.who(0, 11), 298);
        Check.dueText(x, 0, "want 1 when 1<0;".repeat(15) + "want 17;", 16, 0, -1);
        Check.due("want", x.who(0, 1), 17);
        x.set(6, 1, 1);
        x.set(5, 0, 0);
        x.set(5, 1, 1);
        Check.dueText(x, 0, "count 1 when 1<0;".repeat(15) + "count 8;", 16, 0, -1);
        Check.due("count", x.goes(1, 1, 1), 8);
        Check.dueText(x, 2, "on 1 open 4;".repeat(15) + "on 2 plant 1 at 9;", 16, 0, -1);
        x.weeks(2);
        Check.due("not yet", x.look(1), 2);
        x.weeks(1);
        Check.due("planted", x.look(1) * 100 + x.tree(2, 0) * 10 + x.tree(2, 1), 319);
        x.set(4, 2, 99);
        x.set(6, 1, 0);
        Check.dueText(x, 2, "on 1 open 4;".repeat(15) + "on 3 boil 1 77;", 16, 0, -1);
        x.weeks(1);
        Check.due("boiled", x.book(x.look(8) - 2, 3), 77);
        Check.dueText(x, 2, "on 4 open 4;".repeat(15) + "on 4 cheese 1;", 16, 0, -1);
        x.weeks(1);
        Check.due("cheese", x.who(1, 0), 2);
    }

    /** "digits as many as stand together NUMBERS of 1 to 4 digits or none". */
    private static void numbersOfOneToFourDigits() {
        BallotFruit x = small();
        Check.dueText(x, 0, "bear 0;bear 0000;bear 9999;bear 1*0001;", 4, 0, -1);
        Check.dueText(x, 0, "bear 00000;", -1, 1, 5);
        Check.dueText(x, 0, "bear 10000;", -1, 1, 5);
        Check.dueText(x, 0, "bear 1/9999;", 1, 0, -1);
        Check.dueText(x, 0, "bear 1/10000;", -1, 1, 7);
        Check.dueText(x, 0, "bear 1*4294967297;", -1, 1, 7);
        Check.dueText(x, 0, "bear " + "1".repeat(390) + ";", -1, 1, 5);
        Check.dueText(x, 0, "bear 1 2;", -1, 1, 7);
        Check.dueText(x, 1, "eater 0001 by 0009;", 1, 0, -1);
        Check.dueText(x, 1, "eater 00001 by 9;", -1, 1, 6);
        Check.dueText(x, 1, "eater 1 by 00009;", -1, 1, 11);
        Check.dueText(x, 1, "eater 1 by 0 4294967297;", -1, 1, 13);
        Check.dueText(x, 2, "on 0999 boil 0001 0099;", 1, 0, -1);
        Check.dueText(x, 2, "on 00999 boil 1 99;", -1, 1, 3);
        Check.dueText(x, 2, "on 999 boil 00001 99;", -1, 1, 12);
        Check.dueText(x, 2, "on 999 boil 1 00099;", -1, 1, 14);
        Check.dueText(x, 2, "on 4294967296 open 0;", -1, 1, 3);
    }

    /** "2 (at the NUMBER) a part by 0". */
    private static void aPartByNothing() {
        BallotFruit x = small();
        Check.dueText(x, 0, "bear 1/1;", 1, 0, -1);
        Check.dueText(x, 0, "bear 1/0;", -1, 2, 7);
        Check.dueText(x, 0, "bear 1/ 0000;", -1, 2, 8);
        Check.dueText(x, 0, "bear 1/00000;", -1, 1, 7);
        Check.dueText(x, 0, "bear 1 when 0/1<0/0;", -1, 2, 18);
        Check.dueText(x, 0, "bear 0*0+0-0;", 1, 0, -1);
        Twin.dueFault("a part by 0", Twin::some, 0, "bear 9; bear 8/0;", 2, 15);
    }

    /** "2 (at the NUMBER) one beyond its bounds; an EATER .. that there is not." */
    private static void eatersAndPlacesOfPaths() {
        BallotFruit x = small();
        Check.dueText(x, 1, "eater 1 by 9;", 1, 0, -1);
        Check.dueText(x, 1, "eater 2 by 9;", -1, 2, 6);
        Check.dueText(x, 1, "eater 9999 by 9;", -1, 2, 6);
        Check.dueText(x, 1, "eater 1 by 10;", -1, 2, 11);
        Check.dueText(x, 1, "eater 1 by 9999;", -1, 2, 11);
        Check.dueText(x, 1, "eater 1 by 0 9 0 10;", -1, 2, 17);
        BallotFruit full = new BallotFruit();
        Twin.full(full);
        Check.dueText(full, 1, "eater 9 by 0;", 1, 0, -1);
        Check.dueText(full, 1, "eater 10 by 0;", -1, 2, 6);
        Check.dueText(new BallotFruit(), 1, "eater 0 by 0;", -1, 2, 6);
        Twin.dueFault("no such eater", Twin::some, 1, "eater 0 by 0; eater 2 by 0;", 2, 20);
        Twin.dueFault("no such place", Twin::some, 1, "eater 0 by 0; eater 1 by 10;", 2, 25);
    }

    /** "8 PLACES at most, one may be twice"; "3 (at the NUMBER) a path's 9th PLACE". */
    private static void placesOfAPath() {
        for (int n = 1; n <= 8; n++) {
            BallotFruit x = small();
            Check.dueText(x, 1, "eater 0 by" + " 7".repeat(n) + ";", 1, 0, -1);
            Check.due("its length", x.who(0, 2), n);
            Check.due("its last", x.who(0, 9 + n) * 10 + x.who(0, 10 + n), 69);
            Check.due("a set", x.meets(0, 0), 128);
        }
        BallotFruit x = small();
        Check.dueText(x, 1, "eater 0 by;", -1, 1, 10);
        Check.dueText(x, 1, "eater 0 by" + " 7".repeat(9) + ";", -1, 3, 27);
        Check.dueText(x, 1, "eater 0 by" + " 7".repeat(8) + "\n7", -1, 3, 27);
        Check.dueText(x, 1, "eater 0 by 1 2 3 4 5 6 7 8; eater 1 by 1 2 3 4 5 6 7 8 9;", -1, 3, 55);
        Check.due("none of it stays", x.look(11) + x.who(0, 2), 0);
        Twin.dueFault("the 9th place", Twin::some, 1, "eater 0 by" + " 7".repeat(9) + ";", 3, 27);
    }

    /** A TEXT is the TAPE alone: who was named before, the first or the last, has no PATH then. */
    private static void whoIsNotNamedHasNoPath() {
        for (int e = 0; e < 10; e++) {
            BallotFruit x = new BallotFruit();
            Twin.full(x);
            Check.dueText(x, 1, "eater " + e + " by 1 2;", 1, 0, -1);
            for (int other = 0; other < 10; other++) {
                Check.due("named " + e + ", asked " + other, x.who(other, 2), other == e ? 2 : 0);
                Check.due("passed by " + other, x.meets(other, other), other == e ? 6 : 0);
            }
            Check.dueText(x, 1, "", 0, 0, -1);
            Check.due("nobody is named", x.who(e, 2) * 10 + x.who(e, 10), -1);
        }
    }

    /** "(WEEK 0 .. 999, N 1 .. 99.)" */
    private static void numbersOfAPlan() {
        BallotFruit x = small();
        Check.dueText(x, 2, "on 0 boil 0 1; on 999 boil 1 99;", 2, 0, -1);
        Check.dueText(x, 2, "on 1000 boil 0 1;", -1, 2, 3);
        Check.dueText(x, 2, "on 9999 cheese 0;", -1, 2, 3);
        Check.dueText(x, 2, "on 1 boil 0 0;", -1, 2, 12);
        Check.dueText(x, 2, "on 1 boil 0 100;", -1, 2, 12);
        Check.dueText(x, 2, "on 1 fence 0; on 1 open 9; on 1 plant 0 at 9; on 1 fence 9; on 1 open 0;", 5, 0, -1);
        Check.dueText(x, 2, "on 1 fence 10;", -1, 2, 11);
        Check.dueText(x, 2, "on 1 open 10;", -1, 2, 10);
        Check.dueText(x, 2, "on 1 plant 0 at 10;", -1, 2, 16);
        Check.due("the plan stays", x.look(12), 5);
        Twin.dueFault("no such week", Twin::some, 2, "on 2 fence 0; on 1000 fence 1;", 2, 17);
        Twin.dueFault("too many fruits", Twin::some, 2, "on 2 fence 0; on 2 boil 0 100;", 2, 26);
    }

    /** "2 (at the NUMBER) .. an EATER, a PARTY that there is not." */
    private static void whomAPlanNames() {
        BallotFruit x = small();
        Check.dueText(x, 2, "on 0 plant 1 at 0; on 0 boil 1 1; on 0 cheese 1;", 3, 0, -1);
        Check.dueText(x, 2, "on 0 plant 2 at 0;", -1, 2, 11);
        Check.dueText(x, 2, "on 0 boil 2 1;", -1, 2, 10);
        Check.dueText(x, 2, "on 0 cheese 2;", -1, 2, 12);
        BallotFruit full = new BallotFruit();
        Twin.full(full);
        Check.dueText(full, 2, "on 0 plant 4 at 0; on 0 boil 4 1; on 0 cheese 9;", 3, 0, -1);
        Check.dueText(full, 2, "on 0 plant 5 at 0;", -1, 2, 11);
        Check.dueText(full, 2, "on 0 boil 5 1;", -1, 2, 10);
        Check.dueText(full, 2, "on 0 cheese 10;", -1, 2, 12);
        BallotFruit none = new BallotFruit();
        Check.dueText(none, 2, "on 0 plant 0 at 0;", -1, 2, 11);
        Check.dueText(none, 2, "on 0 boil 0 1;", -1, 2, 10);
        Check.dueText(none, 2, "on 0 cheese 0;", -1, 2, 12);
        Check.dueText(none, 2, "on 0 fence 0; on 0 open 9;", 2, 0, -1);
    }

    /** "3 (at it) the 9th ( or not that is open": each way to open eight of both. */
    private static void openOnes() {
        for (int way = 0; way < 256; way++) {
            StringBuilder open = new StringBuilder("bear 1 when ");
            for (int i = 0; i < 8; i++) {
                open.append((way >> i & 1) == 1 ? "(" : "not ");
            }
            int n = open.length();
            String close = ")".repeat(Integer.bitCount(way)) + ";";
            BallotFruit x = small();
            Check.dueText(x, 0, open + "1<2" + close, 1, 0, -1);
            Check.due("an even number of not", x.tree(0, 4), Integer.bitCount(way) % 2 == 0 ? 1 : 8);
            Check.dueText(x, 0, open + "(1<2)" + close, -1, 3, n);
            Check.dueText(x, 0, open + "not 1<2" + close, -1, 3, n);
        }
        Twin.dueFault("the 9th that is open", Twin::some, 0, "bear 1 when ((((((((( 1<2;", 3, 20);
    }

    /** What is closed is open no more: eight may be open behind it. */
    private static void openOnesThatAreClosed() {
        BallotFruit x = small();
        String eight = "((((((((1<2))))))))";
        Check.dueText(x, 0, "bear 1 when " + eight + " and " + eight + " or " + eight + ";", 1, 0, -1);
        Check.dueText(x, 0, "bear 1 when " + eight + " and (" + eight + ");", -1, 3, 44);
        Check.dueText(x, 0, "bear 1 when (" + "not 1<2 and ".repeat(9) + "1<2);", 1, 0, -1);
        Check.dueText(x, 0, "bear 1 when " + eight + ";bear 1 when " + eight + ";", 2, 0, -1);
        Check.dueText(x, 0, "bear 1 when (((((((not 1<2 and not 1<2)))))));", 1, 0, -1);
        Check.dueText(x, 0, "bear 1 when (((((((not 1<2 and not not 1<2)))))));", -1, 3, 35);
    }

    /** "FAULTS, the first by its place". */
    private static void theFirstFaultByItsPlace() {
        BallotFruit x = small();
        Check.dueText(x, 0, "bear 1/0; bear", -1, 2, 7);
        Check.dueText(x, 0, "bear ; bear 1/0;", -1, 1, 5);
        Check.dueText(x, 0, "bear 1 when (((((((((1/0", -1, 3, 20);
        Check.dueText(x, 0, "bear 1/0 when (((((((((1", -1, 2, 7);
        Check.dueText(x, 0, "want 2;".repeat(15) + "want 1/0;want 2;", -1, 2, 112);
        Check.dueText(x, 0, "want 2;".repeat(16) + "want 1/0;", -1, 3, 112);
        Check.dueText(x, 1, "eater 2 by 10;", -1, 2, 6);
        Check.dueText(x, 1, "eater 0 by 10 x", -1, 2, 11);
        Check.dueText(x, 1, "eater 0 by x 10", -1, 1, 11);
        Check.dueText(x, 2, "on 1000 boil 2 100;", -1, 2, 3);
        Check.dueText(x, 2, "on 0 boil 2 100;", -1, 2, 10);
        Check.dueText(x, 2, "on 0 boil 1 100 ?", -1, 2, 12);
        Check.dueText(x, 2, "on 0 ? boil 2 100;", -1, 1, 5);
    }

    /** "at one place the least". */
    private static void theLeastFaultAtOnePlace() {
        BallotFruit x = small();
        String eight = "eater 0 by 0 1 2 3 4 5 6 7 ";
        Check.dueText(x, 1, eight + "9;", -1, 3, 27);
        Check.dueText(x, 1, eight + "10;", -1, 2, 27);
        Check.dueText(x, 1, eight + "9999", -1, 2, 27);
        Check.dueText(x, 1, eight + "00009;", -1, 1, 27);
        Check.dueText(x, 1, eight + "by", -1, 1, 27);
        Check.dueText(x, 0, "want 2;".repeat(16) + "wants", -1, 1, 112);
        Check.dueText(x, 0, "bear 1 when ((((((((1<(", -1, 1, 22);
        Check.dueText(x, 0, "bear 1 when ((((((((1<not", -1, 1, 22);
        Check.dueText(x, 0, "bear 1 when ((((((((nots", -1, 1, 20);
    }

    /** "; + - * / ( ) < = > . Blanks (32, 10) between." Each byte behind a NUMBER. */
    private static void signsAndBlanks() {
        for (int b = 0; b < 256; b++) {
            String text = "bear 1" + (char) b + ";";
            boolean isDigit = b >= '0' && b <= '9';
            boolean goesOn = ";+-*/".indexOf(b) >= 0;
            if (isDigit || b == 32 || b == 10) {
                Check.dueText(small(), 0, text, 1, 0, -1);
            } else {
                Check.dueText(small(), 0, text, -1, 1, goesOn ? 7 : 6);
            }
        }
    }

    /** "letters as many as stand together are KEYWORDS .. or none": each byte behind a word, and ahead of it. */
    private static void lettersThatStandTogether() {
        for (int b = 0; b < 256; b++) {
            boolean isLetter = b >= 'a' && b <= 'z' || b >= 'A' && b <= 'Z';
            boolean isDigit = b >= '0' && b <= '9';
            boolean isBlank = b == 32 || b == 10;
            String behind = "bear" + (char) b + "1;";
            if (isDigit || isBlank) {
                Check.dueText(small(), 0, behind, 1, 0, -1);
            } else {
                Check.dueText(small(), 0, behind, -1, 1, isLetter ? 0 : 4);
            }
            String ahead = (char) b + "bear 1;";
            Check.dueText(small(), 0, ahead, isBlank ? 1 : -1, isBlank ? 0 : 1, isBlank ? -1 : 0);
        }
        Check.dueText(small(), 0, "bear1when1<2and2<3or not(3<4);", 1, 0, -1);
        Check.dueText(small(), 0, "bear1when1<2ornot(3<4);", -1, 1, 12);
        Check.dueText(small(), 0, "bear 1 when" + "not".repeat(2) + " 1<2;", -1, 1, 7);
    }

    /** "KEYWORDS (those told here for that text)". */
    private static void keywordsOfAnotherText() {
        for (int k = 0; k < 3; k++) {
            for (String line : LINES) {
                if (!line.equals(LINES[k])) {
                    Check.dueText(small(), k, line, -1, 1, 0);
                }
            }
        }
        Check.dueText(small(), 0, "bear eater;", -1, 1, 5);
        Check.dueText(small(), 0, "bear count;", -1, 1, 5);
        Check.dueText(small(), 1, "eater 0 at 1;", -1, 1, 8);
        Check.dueText(small(), 2, "on 0 plant 0 by 1;", -1, 1, 13);
        Check.dueText(small(), 2, "on 0 at 1;", -1, 1, 5);
        Check.dueText(small(), 2, "on week fence 1;", -1, 1, 3);
    }

    /** Promise 13: "NONE: no such one (fault() tells 0)". */
    private static void noSuchText() {
        for (int k : ToldBoundsTest.beyond(0, 2)) {
            BallotFruit x = small();
            Check.dueText(x, 0, "bear 1/0;", -1, 2, 7);
            Check.dueText(x, k, "bear 1/0;", -1, 0, -1);
            Check.due("the tape is empty", x.end(1), false);
            Check.due("nothing is told", x.look(10) + x.look(11) + x.look(12), 0);
            Twin.dueFault("no text " + k, Twin::some, k, "want 3;", 0, -1);
            Twin.dueFault("no text " + k, Twin::full, k, "", 0, -1);
        }
    }

    /** Promise 13: "or a FAULT (it stays as it was)": the TEXT, and all that was told beside it. */
    private static void behindAFaultAllStays() {
        for (int k = 0; k < 3; k++) {
            Twin.dueFault("half a text", Twin::some, k, LINES[k] + WORDS[k], 1, LINES[k].length() + WORDS[k].length());
            Twin.dueFault("half a text", Twin::full, k, LINES[k] + WORDS[k], 1, LINES[k].length() + WORDS[k].length());
            Twin.dueFault("none at all", Twin::empty, k, "?", 1, 0);
        }
        BallotFruit x = small();
        Check.dueText(x, 0, "bear 7; want 8;", 2, 0, -1);
        Check.dueText(x, 1, "eater 0 by 1 2; eater 1 by 3;", 2, 0, -1);
        Check.dueText(x, 0, "bear 3; want 4; want", -1, 1, 20);
        Check.dueText(x, 1, "eater 0 by 5; eater 1 by 5; eater 1 by", -1, 1, 38);
        Check.due("the law", x.tree(0, 4) * 10 + x.who(0, 1), 78);
        Check.due("paths", x.who(0, 2) * 1000 + x.who(0, 10) * 100 + x.who(0, 11) * 10 + x.who(1, 10), 2123);
        Check.dueText(x, 2, "on 0 fence 1;", 1, 0, -1);
        Check.dueText(x, 2, "on 0 fence 2; on 0 fence 10;", -1, 2, 25);
        x.weeks(1);
        Check.due("the plan", x.look(15), 2);
    }

    /** Promise 14: "Of the latest text() what 0 the FAULT (0 without one), 1 its place (NONE). NONE for another what." */
    private static void faultOfTheLatestText() {
        BallotFruit x = small();
        Check.dueText(x, 0, "bear 1/0;", -1, 2, 7);
        x.feed(0, 0, 0, 0, 0);
        x.end(0);
        x.weeks(1);
        x.undo();
        x.image(true);
        x.image(false);
        Check.due("it stays till the next text", x.fault(0) * 10 + x.fault(1), 27);
        Check.dueText(x, 1, "eater 0 by 1;", 1, 0, -1);
        Check.dueText(x, 2, ";", -1, 1, 0);
        Check.due("an empty text has none", x.text(2), 0);
        Check.due("none", x.fault(0) * 10 + x.fault(1), -1);
        for (int what : ToldBoundsTest.beyond(0, 1)) {
            Twin.dueNothing("fault " + what, Twin::some, y -> y.fault(what), -1);
        }
        Twin.dueNothing("fault 0", Twin::some, y -> y.fault(0), 2);
        Twin.dueNothing("fault 1", Twin::some, y -> y.fault(1), 7);
    }

    private static int bear(String e) {
        BallotFruit x = small();
        return Check.tell(x, 0, "bear " + e + ";") == 1 ? x.tree(0, 4) : -2;
    }

    private static boolean isSo(String b) {
        BallotFruit x = small();
        return Check.tell(x, 0, "bear 1 when " + b + "; bear 2;") == 2 && x.tree(0, 4) == 1;
    }

    /** "Ints, which wrap". */
    private static void intsWrap() {
        Check.due("the greatest", isSo(MAX + ">0"), true);
        Check.due("one more wraps", isSo(MAX + "+1<0"), true);
        Check.due("it is the least", isSo(MAX + "+1=" + MIN), true);
        Check.due("the least", isSo(MIN + "<0"), true);
        Check.due("one less wraps", isSo(MIN + "-1>0"), true);
        Check.due("it is the greatest", isSo(MIN + "-1=" + MAX), true);
        Check.due("a product below", isSo("9999*9999*21>0"), true);
        Check.due("a product wraps", isSo("9999*9999*22<0"), true);
        Check.due("a product wraps to 0", isSo("8192*8192*64=0"), true);
        Check.due("nothing less the least is the least", isSo("0-8192*8192*32<0"), true);
        Check.due("wrapped twice", isSo("8192*8192*32-8192*8192*32=0"), true);
        Check.due("bear of a wrapped sum", bear(MAX + "+1"), 0);
        Check.due("bear of a wrapped difference", bear(MIN + "-1"), 99);
    }

    /** "/ goes towards 0". */
    private static void partsGoTowardsNothing() {
        Check.due("below", bear("9998/9999"), 0);
        Check.due("whole", bear("9999/9999"), 1);
        Check.due("above", bear("7/2"), 3);
        // 8192*8192*32 is the least of all ints: by 9999 it is 214769.8 below 0
        Check.due("below 0", isSo("8192*8192*32/9999=0-2147*100-69"), true);
        Check.due("by 1 it stays", isSo("8192*8192*32/1=8192*8192*32"), true);
        Check.due("far below 0", isSo("8192*8192*32/9999/9999/22=0"), true);
    }

    /** < = > of ints that lie farther apart than ints reach. */
    private static void comparisonsOfTheGreatest() {
        Check.due("the least is less", isSo(MIN + "<" + MAX), true);
        Check.due("the least isn't more", isSo(MIN + ">" + MAX), false);
        Check.due("the greatest is more", isSo(MAX + ">" + MIN), true);
        Check.due("the greatest isn't less", isSo(MAX + "<" + MIN), false);
        Check.due("they aren't like", isSo(MAX + "=" + MIN), false);
        for (int a = 1; a <= 3; a++) {
            Check.due(a + "<2", isSo(a + "<2"), a < 2);
            Check.due(a + "=2", isSo(a + "=2"), a == 2);
            Check.due(a + ">2", isSo(a + ">2"), a > 2);
        }
    }

    /** or, and, not of all kinds of C that are so or not. */
    private static void eachOfBothSides() {
        String[] yes = {"1<2", "2=2", "2>1", "not 2<1", "(2=2)", "not (2=3 or 3=2)", "not not 3>2"};
        String[] no = {"2<2", "1=2", "2>2", "not 1<2", "(2=3)", "not (2=2 and 3=3)", "not not 2>3"};
        for (int i = 0; i < yes.length; i++) {
            Check.due(yes[i], isSo(yes[i]), true);
            Check.due(no[i], isSo(no[i]), false);
            for (int j = 0; j < yes.length; j++) {
                Check.due(yes[i] + " and " + yes[j], isSo(yes[i] + " and " + yes[j]), true);
                Check.due(yes[i] + " and " + no[j], isSo(yes[i] + " and " + no[j]), false);
                Check.due(no[i] + " and " + yes[j], isSo(no[i] + " and " + yes[j]), false);
                Check.due(yes[i] + " or " + no[j], isSo(yes[i] + " or " + no[j]), true);
                Check.due(no[i] + " or " + yes[j], isSo(no[i] + " or " + yes[j]), true);
                Check.due(no[i] + " or " + no[j], isSo(no[i] + " or " + no[j]), false);
            }
        }
    }

    /** "bear held to 0 .. 99". */
    private static void bearIsHeld() {
        String[] e = {"98", "99", "100", "9999", MAX, "1", "0", "0-1", MIN};
        int[] due = {98, 99, 99, 99, 99, 1, 0, 0, 0};
        for (int i = 0; i < e.length; i++) {
            Check.due("bear " + e[i], bear(e[i]), due[i]);
        }
    }

    /** "want to 0 .. 20". */
    private static void wantIsHeld() {
        String[] e = {"19", "20", "21", MAX, "1", "0", "0-1", MIN};
        int[] due = {19, 20, 20, 20, 1, 0, 0, 0};
        for (int i = 0; i < e.length; i++) {
            BallotFruit x = small();
            Check.dueText(x, 0, "want " + e[i] + ";", 1, 0, -1);
            Check.due("want " + e[i], x.who(0, 1), due[i]);
            Check.due("ways to leave as many", x.left(40), due[i] == 20 ? 1 : 0);
            Check.due("hungry, if one wants", x.weeks(1), due[i] == 0 ? 0 : 2);
        }
    }

    /** "count to 0 .. 9": of a fruit and of a spoon. */
    private static void countIsHeld() {
        String[] e = {"8", "9", "10", MAX, "1", "0", "0-1", MIN};
        int[] due = {8, 9, 9, 9, 1, 0, 0, 0};
        for (int i = 0; i < e.length; i++) {
            BallotFruit x = small();
            x.set(5, 0, 1);
            x.set(5, 1, 1);
            x.set(6, 0, 1);
            Check.dueText(x, 0, "bear 1; count " + e[i] + ";", 2, 0, -1);
            Check.dueText(x, 1, "eater 1 by 6;", 1, 0, -1);
            x.weeks(1);
            Check.due("a spoon counts " + e[i], x.of(0, 1), due[i]);
            Check.due("a fruit counts " + e[i], x.of(1, 1), due[i]);
        }
    }

    /** "(none: bear: age by 5, want: hunger, count 1)". */
    private static void noLineIsSo() {
        String[] laws = {"", "bear 7 when 1<0; want 7 when 1<0; count 7 when 1<0;"};
        for (String law : laws) {
            BallotFruit x = new BallotFruit();
            x.party(20);
            int[] ages = {0, 4, 5, 9, 10, 94, 95, 99};
            int[] due = {0, 0, 1, 1, 2, 18, 19, 19};
            Check.tell(x, 0, law);
            for (int t = 0; t < ages.length; t++) {
                x.plant(0, 0, ages[t]);
                Check.due("bear of age " + ages[t], x.tree(t, 4), due[t]);
            }
            x.eater(0);
            x.eater(20);
            Check.due("want", x.who(0, 1) * 100 + x.who(1, 1), 20);
            x.weeks(1);
            Check.due("count", x.of(0, 1), 20);
        }
    }

    /** "week: WEEK modulo 52 (for all three)". */
    private static void weekModulo52() {
        int[] weeks = {0, 1, 51, 52, 53, 103, 104, 105};
        for (int week : weeks) {
            BallotFruit x = small();
            for (int i = 0; i < week; i += 52) {
                x.weeks(Math.min(52, week - i));
            }
            Check.due("week", x.look(3), week);
            Check.tell(x, 0, "bear week; want week-50 when week>40; want week; count week-44 when week>40; count week;");
            int due = week % 52;
            Check.due("bear in week " + week, x.tree(0, 4), due);
            int want = due > 40 ? due - 50 : due;
            Check.due("want in week " + week, x.who(0, 1), want);
            x.set(6, 0, 1);
            x.set(6, 1, 0);
            int votes = x.of(0, 1);
            x.set(3, 0, 50);
            x.weeks(1);
            Check.due("count in week " + week, x.of(0, 1) - votes, due > 40 ? due - 44 : due);
        }
    }

    /** What a TREE, an EATER and a fruit are asked, all at their greatest. */
    private static void whatIsAskedAtItsMost() {
        BallotFruit x = new BallotFruit();
        for (int p = 0; p < 5; p++) {
            x.party(0);
        }
        x.eater(20);
        x.plant(4, 9, 99);
        x.taste(0, 4, 9);
        x.set(2, 0, 99);
        x.set(3, 0, 1);
        x.set(7, 4, 1);
        Check.tell(x, 0, "bear 0; want 0;");
        x.weeks(51);
        x.set(3, 0, 50);
        x.set(4, 0, 99);
        String tree = "party=4 and place=9 and age=99 and hanging=99 and seats=99 and week=51";
        Check.dueText(x, 0, "bear 3 when " + tree + " and hunger+taste+jam=0;", 1, 0, -1);
        Check.due("bear", x.tree(0, 4), 3);
        Check.dueText(x, 0, "want 4 when hunger=20 and week=51 and party+place+age+hanging+taste+jam+seats=0;", 1, 0, -1);
        Check.due("want", x.who(0, 1), 4);
        Check.dueText(x, 0, "want 1; bear 0; count 5 when " + tree + " and hunger=20 and taste=9 and jam=0;", 3, 0, -1);
        Check.dueText(x, 1, "eater 0 by 9;", 1, 0, -1);
        Check.due("count of a fruit", x.goes(1, 4, 1), 5);
        String jam = "party=4 and place+age+hanging=0 and seats=99 and week=51 and hunger=20 and taste=9 and jam=1";
        Check.dueText(x, 0, "want 1; bear 0; count 6 when " + jam + ";", 3, 0, -1);
        x.set(4, 0, 0);
        x.set(6, 4, 999);
        Check.due("count of a spoon", x.goes(1, 4, 1), 6);
    }

    /** "want of an EATER: hunger: HUNGER; the rest (but week) 0", whichever PARTY has SEATS. */
    private static void wantAsksForNoParty() {
        for (int p = 0; p < 5; p++) {
            BallotFruit x = new BallotFruit();
            for (int i = 0; i < 5; i++) {
                x.party(9);
            }
            x.eater(0);
            x.plant(p, 0, 99);
            x.set(4, 0, 99);
            x.set(3, 0, 1);
            x.set(7, p, 5);
            x.weeks(1);
            Check.due("seats", x.of(p, 2), 9);
            Check.dueText(x, 0, "want party+place+age+hanging+taste+jam+seats;", 1, 0, -1);
            Check.due("want", x.who(0, 1), 0);
        }
    }

    /** "hanging: ahead of it": fruit by fruit, whichever of sixteen lines asks for it. */
    private static void hangingAheadOfEachFruit() {
        for (int line = 0; line < 16; line++) {
            for (int k = 0; k < 2; k++) {
                BallotFruit x = small();
                x.set(4, 1, 4);
                Check.tell(x, 1, "eater 1 by 6;");
                String asks = k == 0 ? "count hanging;" : "count 9 when hanging>3; count hanging;";
                String law = "bear 0 when 0<1;" + "count 1 when 1<0;".repeat(Math.max(0, line - 1)) + asks;
                law = line == 0 ? asks + "bear 0;" : law;
                int lines = line + 1 + k + (line == 0 ? 1 : 0);
                if (lines <= 16) {
                    Check.dueText(x, 0, law, lines, 0, -1);
                    // eater 1 eats all four
                    Check.due("line " + line + " asks for hanging", x.goes(1, 1, 1), k == 0 ? 10 : 15);
                }
            }
        }
    }
}
