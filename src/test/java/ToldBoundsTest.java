import java.util.ArrayList;
import java.util.List;
import java.util.function.IntUnaryOperator;

/**
 * Part 1 of the terms and promises 1 to 12, 15 to 19 and 35: each bound at the last value that may be and at the
 * first that may not; and that what is refused leaves all as it was.
 */
public final class ToldBoundsTest {
    public static void main(String[] args) {
        aNewObjectIsEmpty();
        stateIsAnyInt();
        drawsWrap();
        drawsAreWithoutSign();
        storeOfAParty();
        fiveParties();
        hungerOfAnEater();
        tenEaters();
        tasteIsFiveAtFirst();
        tasteIsBounded();
        rulesAreBounded();
        whoIsNotAskedForRules();
        valuesAreBounded();
        anotherWhatToSet();
        plantingIsBounded();
        fourteenTrees();
        placesAreTen();
        fencedAlready();
        boilingIsBounded();
        boilsAsManyAsHang();
        storeIsFullByBoiling();
        theTapeIsBounded();
        theTapesEnd();
        ofIsBounded();
        treeIsBounded();
        whoIsBounded();
        atIsBounded();
        bookIsBounded();
        lookIsBounded();
        Check.finish();
    }

    /** What an argument of these bounds may not be: the first on both sides, and some far away. */
    static int[] beyond(int least, int most) {
        List<Integer> all = new ArrayList<>(List.of(least - 1, most + 1));
        for (int v : new int[] {Integer.MIN_VALUE, Integer.MAX_VALUE, 32, 64, 256, -256, 65536, 1 << 30}) {
            if (v < least - 1 || v > most + 1) {
                all.add(v);
            }
        }
        return all.stream().mapToInt(Integer::intValue).toArray();
    }

    /** Promise 1: "An empty commune." */
    private static void aNewObjectIsEmpty() {
        BallotFruit x = new BallotFruit();
        int[] looks = {0, 0, 0, 0, 0, 0, 9, 4, 0, 0, 0, 0, 0, 0, 0, 0};
        for (int what = 0; what < looks.length; what++) {
            Check.due("new: look " + what, x.look(what), looks[what]);
        }
        for (int place = 0; place < 10; place++) {
            Check.due("new: fenced " + place, x.at(place), 0);
        }
        for (int what = 0; what < 25; what++) {
            Check.due("new: nobody", x.of(0, what) + x.tree(0, what) + x.who(0, what) + x.book(0, what), -4);
        }
        Check.due("new: goes", x.goes(1, 0, 0) * 10 + x.goes(60, 0, 1), -22);
        Check.due("new: nobody is hungry", x.goes(60, 0, 2) * 10 + x.goes(60, 0, 3), -11);
        Check.due("new: falls, brings, swings", x.falls(0) * 100 + x.brings(0, 1, 0) * 10 + x.swings(0, 1), -111);
        Check.due("new: feeds", x.feeds(0) * 10 + x.feeds(1), 0);
        Check.due("new: whose", x.whose(0) * 10 + x.whose(1), -1);
        Check.due("new: left", x.left(0) * 10 + x.left(1), 10);
        Check.due("new: rules, weighs, lasts", x.rules(0) * 100 + x.weighs(0) * 10 + x.lasts(0), -111);
        Check.due("new: meets, game", x.meets(0, 0) * 100 + x.game(0) * 10 + x.game(1), -111);
        Check.due("new: fault", x.fault(0) * 10 + x.fault(1), -1);
        Check.due("new: nothing to undo", x.undo(), false);
        Check.due("new: no image", x.image(false), false);
        Check.due("new: no tape", x.end(1), false);
        Check.due("new: the empty tape", x.end(0), true);
        Check.due("new: nobody is hungry in weeks", x.weeks(60), 0);
    }

    /** Promise 2: "STATE is told: what it was." */
    private static void stateIsAnyInt() {
        BallotFruit x = new BallotFruit();
        int was = 0;
        for (int v : new int[] {Integer.MIN_VALUE, Integer.MAX_VALUE, -1, 1, 0, 1 << 24}) {
            Check.due("state was", x.state(v), was);
            Check.due("state is", x.look(9), v);
            was = v;
        }
    }

    /** A tree with ten hanging and nobody who eats: each week one draw, and one fruit goes if it is below. */
    private static BallotFruit oneDraw(int state, int wasps) {
        BallotFruit x = new BallotFruit();
        x.party(0);
        x.plant(0, 0, 0);
        x.set(4, 0, 10);
        x.set(1, 0, wasps);
        x.state(state);
        x.weeks(1);
        return x;
    }

    /** "it becomes 1664525 times itself + 1013904223 (ints, which wrap)". */
    private static void drawsWrap() {
        for (int s : new int[] {0, 1, -1, Integer.MAX_VALUE, Integer.MIN_VALUE, 12345, -98765}) {
            long next = 1664525L * s + 1013904223L;
            Check.due("state behind " + s, oneDraw(s, 1).look(9), (int) next);
        }
    }

    /** "then it is its highest 24 bits (without sign) modulo m": below the draw nothing is gone, above it is. */
    private static void drawsAreWithoutSign() {
        for (int s : new int[] {0, 1, -1, Integer.MAX_VALUE, Integer.MIN_VALUE, 12345, -98765}) {
            long next = 1664525L * s + 1013904223L & 0xFFFFFFFFL;
            int draw = (int) (next / 256 % 1000);
            Check.due("not below it, " + s, oneDraw(s, draw).tree(0, 3), 10);
            Check.due("below it, " + s, oneDraw(s, draw + 1).tree(0, 3), 9);
        }
    }

    /** "STORE 0 .. 999 spoons of jam"; promise 3: "NONE if one can't be". */
    private static void storeOfAParty() {
        BallotFruit x = new BallotFruit();
        Check.due("the least store", x.party(0), 0);
        Check.due("the greatest store", x.party(999), 1);
        Check.due("stores", x.of(0, 0) * 1000 + x.of(1, 0), 999);
        for (int store : beyond(0, 999)) {
            Twin.dueNothing("party " + store, Twin::some, y -> y.party(store), -1);
        }
        Twin.dueNothing("party -1 of a new object", Twin::empty, y -> y.party(-1), -1);
        Twin.dueNothing("party 1000 of a new object", Twin::empty, y -> y.party(1000), -1);
    }

    /** "PARTIES 0 .. 4 as they come"; promise 3: "NONE if .. there are five". */
    private static void fiveParties() {
        BallotFruit x = new BallotFruit();
        for (int p = 0; p < 5; p++) {
            Check.due("party", x.party(p), p);
            Check.due("no seats, no votes", x.of(p, 1) * 10 + x.of(p, 2), 0);
        }
        Check.due("the sixth", x.party(0), -1);
        Check.due("five", x.look(0), 5);
        Twin.dueNothing("the sixth party", Twin::full, y -> y.party(0), -1);
    }

    /** "HUNGER 0 .. 20"; promise 4: "NONE if one can't be". */
    private static void hungerOfAnEater() {
        BallotFruit x = new BallotFruit();
        Check.due("the least hunger", x.eater(0), 0);
        Check.due("the greatest hunger", x.eater(20), 1);
        Check.due("hungers", x.who(0, 0) * 100 + x.who(1, 0), 20);
        for (int hunger : beyond(0, 20)) {
            Twin.dueNothing("eater " + hunger, Twin::some, y -> y.eater(hunger), -1);
        }
        Twin.dueNothing("eater -1 of a new object", Twin::empty, y -> y.eater(-1), -1);
        Twin.dueNothing("eater 21 of a new object", Twin::empty, y -> y.eater(21), -1);
    }

    /** "EATERS 0 .. 9 as they come"; promise 4: "NONE if .. there are ten". */
    private static void tenEaters() {
        BallotFruit x = new BallotFruit();
        for (int e = 0; e < 10; e++) {
            Check.due("eater", x.eater(e), e);
        }
        Check.due("the eleventh", x.eater(0), -1);
        Check.due("ten", x.look(2), 10);
        Check.due("the last one's hunger", x.who(9, 0), 9);
        Twin.dueNothing("the eleventh eater", Twin::full, y -> y.eater(0), -1);
    }

    /** "of each PARTY a TASTE 0 .. 9 (5 at first)": also for those that come later, and for the last of both. */
    private static void tasteIsFiveAtFirst() {
        BallotFruit x = new BallotFruit();
        for (int e = 0; e < 10; e++) {
            x.eater(0);
        }
        for (int p = 0; p < 5; p++) {
            Check.due("no such party yet", x.who(9, 20 + p), -1);
            x.party(0);
            for (int e = 0; e < 10; e++) {
                Check.due("taste at first", x.who(e, 20 + p), 5);
            }
        }
    }

    /** Promise 5: "TASTE: true; false if one can't be." */
    private static void tasteIsBounded() {
        BallotFruit x = new BallotFruit();
        Twin.full(x);
        Check.due("the greatest, the last of both", x.taste(9, 4, 9), true);
        Check.due("the least, the first of both", x.taste(0, 0, 0), true);
        Check.due("the one", x.who(9, 24) * 10 + x.who(9, 23), 95);
        Check.due("the other", x.who(0, 20) * 10 + x.who(0, 21), 5);
        for (int v : beyond(0, 9)) {
            Twin.dueNothing("taste " + v, Twin::some, y -> y.taste(1, 1, v) ? 1 : 0, 0);
        }
        for (int e : beyond(0, 1)) {
            Twin.dueNothing("taste of eater " + e, Twin::some, y -> y.taste(e, 1, 1) ? 1 : 0, 0);
        }
        for (int p : beyond(0, 1)) {
            Twin.dueNothing("taste for party " + p, Twin::some, y -> y.taste(1, p, 1) ? 1 : 0, 0);
        }
        Twin.dueNothing("taste of the eleventh", Twin::full, y -> y.taste(10, 4, 1) ? 1 : 0, 0);
        Twin.dueNothing("taste for the sixth", Twin::full, y -> y.taste(9, 5, 1) ? 1 : 0, 0);
        Twin.dueNothing("taste of nobody", Twin::empty, y -> y.taste(0, 0, 1) ? 1 : 0, 0);
    }

    /** "BAD 0 .. 1000, WASPS 0 .. 1000, CHAIRS 1 .. 99, EVERY 1 .. 52"; promise 6: "false if one can't be". */
    private static void rulesAreBounded() {
        int[][] bounds = {{0, 1000}, {0, 1000}, {1, 99}, {1, 52}};
        for (int what = 0; what < 4; what++) {
            int w = what;
            BallotFruit x = new BallotFruit();
            Check.due("set most " + what, x.set(what, 0, bounds[what][1]), true);
            Check.due("most " + what, x.look(4 + what), bounds[what][1]);
            Check.due("set least " + what, x.set(what, 0, bounds[what][0]), true);
            Check.due("least " + what, x.look(4 + what), bounds[what][0]);
            for (int v : beyond(bounds[what][0], bounds[what][1])) {
                Twin.dueNothing("set " + what + " to " + v, Twin::some, y -> y.set(w, 0, v) ? 1 : 0, 0);
            }
        }
    }

    /** Promise 6: "(who not asked)". */
    private static void whoIsNotAskedForRules() {
        for (int who : new int[] {-1, 99, Integer.MIN_VALUE, Integer.MAX_VALUE}) {
            BallotFruit x = new BallotFruit();
            for (int what = 0; what < 4; what++) {
                Check.due("who " + who + " is not asked for " + what, x.set(what, who, 7), true);
                Check.due("it is set", x.look(4 + what), 7);
            }
        }
    }

    /** "HANGING 0 .. 99, HUNGER 0 .. 20, STORE 0 .. 999, VOTES 0 .. 9999"; promise 6: "false if one can't be". */
    private static void valuesAreBounded() {
        int[] most = {99, 20, 999, 9999};
        int[] last = {13, 9, 4, 4};
        for (int i = 0; i < 4; i++) {
            int what = 4 + i;
            int who = last[i];
            BallotFruit x = new BallotFruit();
            Twin.full(x);
            IntUnaryOperator is = n -> what == 4 ? x.tree(n, 3) : what == 5 ? x.who(n, 0) : x.of(n, what - 6);
            int before = is.applyAsInt(who - 1);
            Check.due("set most " + what, x.set(what, who, most[i]), true);
            Check.due("most " + what, is.applyAsInt(who), most[i]);
            Check.due("set least " + what, x.set(what, who, 0), true);
            Check.due("least " + what, is.applyAsInt(who), 0);
            Check.due("the one before it", is.applyAsInt(who - 1), before);
            for (int v : beyond(0, most[i])) {
                Twin.dueNothing("set " + what + " to " + v, Twin::some, y -> y.set(what, 1, v) ? 1 : 0, 0);
            }
            for (int n : beyond(0, 1)) {
                Twin.dueNothing("set " + what + " of " + n, Twin::some, y -> y.set(what, n, 1) ? 1 : 0, 0);
            }
            Twin.dueNothing("set " + what + " behind the last", Twin::full, y -> y.set(what, who + 1, 1) ? 1 : 0, 0);
            Twin.dueNothing("set " + what + " of nobody", Twin::empty, y -> y.set(what, 0, 1) ? 1 : 0, 0);
        }
    }

    /** Promise 6: "false if .. another what". */
    private static void anotherWhatToSet() {
        for (int what : beyond(0, 7)) {
            Twin.dueNothing("set what " + what, Twin::some, y -> y.set(what, 0, 1) ? 1 : 0, 0);
        }
    }

    /** "AGE 0 .. 99"; promise 7: "NONE if one can't be". */
    private static void plantingIsBounded() {
        BallotFruit x = new BallotFruit();
        x.party(0);
        x.party(0);
        Check.due("the least of all", x.plant(0, 0, 0), 0);
        Check.due("the greatest of all", x.plant(1, 9, 99), 1);
        for (int t = 0; t < 2; t++) {
            int got = x.tree(t, 0) * 10000 + x.tree(t, 1) * 1000 + x.tree(t, 2) * 10 + x.tree(t, 3);
            Check.due("its party, place, age, and nothing hangs", got, 19990 * t);
        }
        for (int party : beyond(0, 1)) {
            Twin.dueNothing("plant for " + party, Twin::some, y -> y.plant(party, 0, 0), -1);
        }
        for (int place : beyond(0, 9)) {
            Twin.dueNothing("plant at " + place, Twin::some, y -> y.plant(0, place, 0), -1);
        }
        for (int age : beyond(0, 99)) {
            Twin.dueNothing("plant of age " + age, Twin::some, y -> y.plant(0, 0, age), -1);
        }
        Twin.dueNothing("plant without parties", Twin::empty, y -> y.plant(0, 0, 0), -1);
    }

    /** "TREES 0 .. 13 as they come"; promise 7: "NONE if .. there are fourteen". */
    private static void fourteenTrees() {
        BallotFruit x = new BallotFruit();
        x.party(0);
        for (int t = 0; t < 14; t++) {
            Check.due("tree", x.plant(0, t % 10, t), t);
        }
        Check.due("the fifteenth", x.plant(0, 0, 0), -1);
        Check.due("fourteen", x.look(1), 14);
        Check.due("the last", x.tree(13, 2), 13);
        Check.due("lines", x.look(8), 14);
        Check.due("undone, there is room", x.undo(), true);
        Check.due("the fourteenth again", x.plant(0, 3, 33), 13);
        Check.due("its age", x.tree(13, 2), 33);
        Twin.dueNothing("the fifteenth tree", Twin::full, y -> y.plant(0, 0, 0), -1);
    }

    /** "PLACES 0 .. 9, each FENCED 0, 1 (0 at first)"; promise 8: "false if .. one can't be". */
    private static void placesAreTen() {
        BallotFruit x = new BallotFruit();
        for (int place = 0; place < 10; place++) {
            Check.due("fenced", x.fence(place, true), true);
            Check.due("those fenced", x.look(15), (2 << place) - 1);
        }
        for (int place = 0; place < 10; place++) {
            Check.due("opened", x.fence(place, false), true);
            Check.due("is it", x.at(place), 0);
        }
        Check.due("all are open", x.look(15), 0);
        for (int place : beyond(0, 9)) {
            Twin.dueNothing("fence " + place, Twin::some, y -> y.fence(place, true) ? 1 : 0, 0);
            Twin.dueNothing("open " + place, Twin::some, y -> y.fence(place, false) ? 1 : 0, 0);
        }
    }

    /** Promise 8: "false if it is so". */
    private static void fencedAlready() {
        for (int place = 0; place < 10; place++) {
            int n = place;
            boolean is = place == 7;
            Twin.dueNothing("so already " + place, Twin::some, y -> y.fence(n, is) ? 1 : 0, 0);
        }
        Twin.dueNothing("open already", Twin::empty, y -> y.fence(0, false) ? 1 : 0, 0);
        Twin.dueNothing("fenced already", Twin::full, y -> y.fence(9, true) ? 1 : 0, 0);
    }

    private static BallotFruit kitchen(int store, int hanging) {
        BallotFruit x = new BallotFruit();
        x.party(store);
        x.party(0);
        x.plant(0, 0, 0);
        x.plant(1, 0, 0);
        x.plant(0, 9, 0);
        x.set(4, 0, hanging);
        x.set(4, 1, 99);
        x.set(4, 2, hanging);
        return x;
    }

    /** Promise 9: "Fruit is boiled (1 .. 99): how many fruits; NONE if one can't be." */
    private static void boilingIsBounded() {
        BallotFruit x = kitchen(0, 60);
        Check.due("one", x.boil(0, 1), 1);
        Check.due("ninety-nine", x.boil(0, 99), 99);
        Check.due("store", x.of(0, 0), 100);
        Check.due("by number", x.tree(0, 3) * 100 + x.tree(2, 3), 20);
        Check.due("the last party", x.boil(1, 99), 99);
        for (int n : beyond(1, 99)) {
            Twin.dueNothing("boil " + n, Twin::some, y -> y.boil(1, n), -1);
        }
        for (int party : beyond(0, 1)) {
            Twin.dueNothing("boil of party " + party, Twin::some, y -> y.boil(party, 1), -1);
        }
        Twin.dueNothing("boil of the sixth", Twin::full, y -> y.boil(5, 1), -1);
        Twin.dueNothing("boil of nobody", Twin::empty, y -> y.boil(0, 1), -1);
    }

    /** "N fruits in all (as many as hang)". */
    private static void boilsAsManyAsHang() {
        for (int n = 9; n <= 11; n++) {
            BallotFruit x = kitchen(0, 5);
            Check.due("of ten that hang", x.boil(0, n), Math.min(10, n));
            Check.due("spoons", x.of(0, 0), Math.min(10, n));
            Check.due("still hang", x.of(0, 3), n < 10 ? 1 : 0);
            Check.due("book", x.book(3, 3), Math.min(10, n));
        }
        BallotFruit x = kitchen(4, 0);
        Check.due("nothing hangs", x.boil(0, 99), 0);
        Check.due("no spoon more", x.of(0, 0), 4);
        BallotFruit y = new BallotFruit();
        y.party(4);
        Check.due("no tree", y.boil(0, 1), 0);
        for (int t = 0; t < 14; t++) {
            y.set(4, y.plant(0, t % 10, 0), t % 2);
        }
        Check.due("of fourteen trees", y.boil(0, 99), 7);
        Check.due("spoons", y.of(0, 0), 11);
        y.set(4, 13, 99);
        Check.due("of the last tree", y.boil(0, 98), 98);
        Check.due("one hangs", y.tree(13, 3), 1);
    }

    /** "as many spoons (STORE 999 at most: what is above is lost)". */
    private static void storeIsFullByBoiling() {
        for (int n = 1; n <= 3; n++) {
            BallotFruit x = kitchen(997, 3);
            Check.due("fruits", x.boil(0, n), n);
            Check.due("store", x.of(0, 0), Math.min(999, 997 + n));
            Check.due("they hang no more", x.of(0, 3), 6 - n);
        }
        BallotFruit x = kitchen(999, 3);
        Check.due("fruits of a full store", x.boil(0, 6), 6);
        Check.due("all is lost", x.of(0, 0) * 10 + x.of(0, 3), 9990);
        Check.due("but is written", x.book(3, 3), 6);
    }

    private static void fed(BallotFruit x, int bytes) {
        for (int i = 0; i < 20; i++) {
            x.feed(0x20202020, 0x20202020, 0x20202020, 0x20202020, 0x20202020);
        }
        x.end(bytes);
    }

    /** Promise 11: "NONE, and nothing comes, if there would be more than 400." */
    private static void theTapeIsBounded() {
        BallotFruit x = new BallotFruit();
        for (int n = 20; n <= 400; n += 20) {
            Check.due("feed", x.feed(0x20202020, 0x20202020, 0x20202020, 0x20202020, 0x20202020), n);
        }
        Check.due("420", x.feed(0x20202020, 0x20202020, 0x20202020, 0x20202020, 0x20202020), -1);
        Twin.dueNothing("feed to a full tape", Twin::full, y -> y.feed(0, 0, 0, 0, 0), -1);
        for (int n : new int[] {381, 390, 399, 400}) {
            Twin.dueNothing("feed behind " + n, y -> fed(y, n), y -> y.feed(0, 0, 0, 0, 0), -1);
        }
        BallotFruit z = new BallotFruit();
        fed(z, 380);
        Check.due("just 400", z.feed(0x20202020, 0x20202020, 0x20202020, 0x20202020, 0x2020203F), 400);
        Check.due("a text", z.text(1), -1);
        Check.due("the last byte", z.fault(1), 399);
        Check.due("all bits", z.feed(-1, Integer.MIN_VALUE, Integer.MAX_VALUE, 0, 1), 20);
    }

    /** Promise 12: "false, changing nothing, if it has not so many, or n is below 0." */
    private static void theTapesEnd() {
        BallotFruit x = new BallotFruit();
        Check.put(x, "bear 1; ?");
        Check.due("all of it", x.end(9), true);
        Check.due("one more", x.end(10), false);
        Check.due("one less", x.end(8), true);
        Check.due("gone", x.end(9), false);
        Check.due("bytes come behind it", x.feed(0x2A202020, 0x20202020, 0x20202020, 0x20202020, 0x20202020), 28);
        Check.due("what was behind the end is gone", x.text(0) * 10 + x.fault(0), -9);
        Check.due("its place", x.fault(1), 8);
        Check.put(x, "?");
        Check.due("nothing of it", x.end(0), true);
        Check.due("an empty text", x.text(0), 0);
        for (int n : beyond(0, 7)) {
            Twin.dueNothing("end " + n, Twin::some, y -> y.end(n) ? 1 : 0, 0);
        }
        Twin.dueNothing("end where it ends", Twin::some, y -> y.end(7) ? 1 : 0, 1);
        Twin.dueNothing("end 401", Twin::full, y -> y.end(401) ? 1 : 0, 0);
        Twin.dueNothing("end 400", Twin::full, y -> y.end(400) ? 1 : 0, 1);
        Twin.dueNothing("end 1 of none", Twin::empty, y -> y.end(1) ? 1 : 0, 0);
        Twin.dueNothing("end -1 of none", Twin::empty, y -> y.end(-1) ? 1 : 0, 0);
    }

    /** Promise 15: "NONE if there is none such, or another what." */
    private static void ofIsBounded() {
        for (int what = 0; what < 4; what++) {
            int w = what;
            for (int p : beyond(0, 1)) {
                Twin.dueNothing("of " + p, Twin::some, y -> y.of(p, w), -1);
            }
            Twin.dueNothing("of the sixth", Twin::full, y -> y.of(5, w), -1);
        }
        for (int what : beyond(0, 3)) {
            Twin.dueNothing("of what " + what, Twin::some, y -> y.of(1, what), -1);
        }
    }

    /** Promise 16: "NONE if there is none such, or another what." */
    private static void treeIsBounded() {
        for (int what = 0; what < 5; what++) {
            int w = what;
            for (int t : beyond(0, 1)) {
                Twin.dueNothing("tree " + t, Twin::some, y -> y.tree(t, w), -1);
            }
            Twin.dueNothing("the fifteenth tree", Twin::full, y -> y.tree(14, w), -1);
        }
        for (int what : beyond(0, 4)) {
            Twin.dueNothing("tree what " + what, Twin::some, y -> y.tree(1, what), -1);
        }
    }

    /** Promise 17: "10 + i its i-th PLACE (0 the first), 20 + p TASTE for PARTY p. NONE if there is none such". */
    private static void whoIsBounded() {
        BallotFruit x = new BallotFruit();
        Twin.full(x);
        for (int i = 0; i < 8; i++) {
            Check.due("the i-th place", x.who(9, 10 + i), 9 - i);
        }
        Check.due("no ninth, no tenth", x.who(9, 18) * 10 + x.who(9, 19), -11);
        Check.due("a path of one", x.who(0, 10) * 10 + x.who(0, 11), -1);
        Check.due("no path", x.who(1, 2) * 10 + x.who(1, 10), -1);
        Check.due("taste for the fifth", x.who(9, 24), 5);
        for (int e : beyond(0, 1)) {
            for (int what : new int[] {0, 1, 2, 10, 20}) {
                Twin.dueNothing("who " + e, Twin::some, y -> y.who(e, what), -1);
            }
        }
        int[] others = {Integer.MIN_VALUE, -1, 3, 9, 12, 17, 18, 19, 22, 24, 25, 30, Integer.MAX_VALUE};
        for (int what : others) {
            Twin.dueNothing("who what " + what, Twin::some, y -> y.who(0, what), -1);
        }
        Twin.dueNothing("the eleventh eater", Twin::full, y -> y.who(10, 0), -1);
        Twin.dueNothing("taste for the sixth", Twin::full, y -> y.who(9, 25), -1);
    }

    /** Promise 18: "NONE if there is none such." */
    private static void atIsBounded() {
        for (int place : beyond(0, 9)) {
            Twin.dueNothing("at " + place, Twin::some, y -> y.at(place), -1);
        }
        Twin.dueNothing("at 9, which is fenced", Twin::full, y -> y.at(9), 1);
        Twin.dueNothing("at 0, which is open", Twin::full, y -> y.at(0), 0);
    }

    /** Promise 19: "NONE if there is none such, or another what." */
    private static void bookIsBounded() {
        BallotFruit x = new BallotFruit();
        Twin.some(x);
        int last = x.look(8) - 1;
        Check.due("the first line: a tree was planted", x.book(0, 1) * 10 + x.book(0, 2), 0);
        Check.due("the last line: party 0 was boiled", x.book(last, 1) * 10 + x.book(last, 2), 30);
        Check.due("its week, its fruits", x.book(last, 0) * 10 + x.book(last, 3), 22);
        for (int what = 0; what < 4; what++) {
            int w = what;
            for (int i : beyond(0, last)) {
                Twin.dueNothing("book " + i, Twin::some, y -> y.book(i, w), -1);
            }
            Twin.dueNothing("book of none", Twin::empty, y -> y.book(0, w), -1);
        }
        for (int what : beyond(0, 3)) {
            Twin.dueNothing("book what " + what, Twin::some, y -> y.book(0, what), -1);
        }
    }

    /** Promise 35: "NONE for another what." */
    private static void lookIsBounded() {
        for (int what : beyond(0, 15)) {
            Twin.dueNothing("look " + what, Twin::some, y -> y.look(what), -1);
        }
        BallotFruit x = new BallotFruit();
        Twin.full(x);
        int[] looks = {5, 14, 10, 4, 0, 0, 9, 4};
        for (int what = 0; what < looks.length; what++) {
            Check.due("full: look " + what, x.look(what), looks[what]);
        }
        Check.due("full: state", x.look(9), -5);
        Check.due("full: lines of texts", x.look(10) * 10000 + x.look(11) * 100 + x.look(12), 161616);
        Check.due("full: cores", x.look(13), 8);
        Check.due("full: to be undone", x.look(14), 6);
        Check.due("full: those fenced", x.look(15), 512 + 8);
    }
}
