/** A commune in which one votes by eating: the document's face, and all behind it in the classes inside. */
public final class BallotFruit {
    public static final int NONE = -1;

    private static final int PLACES = 10;
    private static final int PARTIES = 5;
    private static final int TREES = 14;
    private static final int EATERS = 10;
    private static final int STEPS = 8;
    private static final int TEXT_LINES = 16;
    private static final int OPEN = 8;
    private static final int BOOK_LINES = 150;
    private static final int BOOK_ROW = 4;
    private static final int TAPE_BYTES = 400;
    private static final int FEED_BYTES = 20;
    private static final int KEPT = 6;
    private static final int CORES = 8;

    private static final int MOST_STORE = 999;
    private static final int MOST_VOTES = 9999;
    private static final int MOST_AGE = 99;
    private static final int MOST_HANGING = 99;
    private static final int MOST_HUNGER = 20;
    private static final int MOST_TASTE = 9;
    private static final int MOST_COUNT = 9;
    private static final int MOST_CHAIRS = 99;
    private static final int MOST_WEEK = 9999;
    private static final int MOST_PLAN_WEEK = 999;
    private static final int MOST_NUMBER = 9999;
    private static final int MOST_BOILED = 99;
    private static final int MOST_LEFT = 99;
    private static final int THOUSAND = 1000;
    private static final int YEAR = 52;
    private static final int WEEKS_AT_ONCE = 60;
    private static final int WEEKS_IN_THOUGHT = 20;
    private static final int FIRST_TASTE = 5;
    private static final int NEW_TREE_AGE = 10;
    private static final long MODULUS = 1000000007L;

    private static final int PLANTED = 0;
    private static final int FENCED = 1;
    private static final int OPENED = 2;
    private static final int BOILED = 3;
    private static final int BAD_ONE = 4;
    private static final int HUNGRY = 5;
    private static final int WASPS = 6;
    private static final int SEATED = 7;

    private static final int TOKEN_END = 0;
    private static final int TOKEN_NUMBER = 1;
    private static final int TOKEN_NOTHING = 2;
    /** Signs are tokens by their own byte; words stand above all bytes, in the order of their text's list. */
    private static final int TOKEN_WORD = 256;

    private static final String LAW_WORDS =
        "bear want count when or and not week party place age hanging hunger taste jam seats ";
    private static final int WORD_COUNT = TOKEN_WORD + 2;
    private static final int WORD_WHEN = TOKEN_WORD + 3;
    private static final int WORD_OR = TOKEN_WORD + 4;
    private static final int WORD_AND = TOKEN_WORD + 5;
    private static final int WORD_NOT = TOKEN_WORD + 6;
    private static final int WORD_WEEK = TOKEN_WORD + 7;

    private static final String PATH_WORDS = "eater by ";
    private static final int WORD_EATER = TOKEN_WORD;
    private static final int WORD_BY = TOKEN_WORD + 1;

    private static final String PLAN_WORDS = "on plant at fence open boil cheese ";
    private static final int WORD_ON = TOKEN_WORD;
    private static final int WORD_PLANT = TOKEN_WORD + 1;
    private static final int WORD_AT = TOKEN_WORD + 2;
    private static final int WORD_FENCE = TOKEN_WORD + 3;
    private static final int WORD_BOIL = TOKEN_WORD + 5;
    private static final int WORD_CHEESE = TOKEN_WORD + 6;

    private static final int LAW_BEAR = 0;
    private static final int LAW_WANT = 1;
    private static final int LAW_COUNT = 2;

    private static final int ASK_WEEK = 0;
    private static final int ASK_PARTY = 1;
    private static final int ASK_PLACE = 2;
    private static final int ASK_AGE = 3;
    private static final int ASK_HANGING = 4;
    private static final int ASK_HUNGER = 5;
    private static final int ASK_TASTE = 6;
    private static final int ASK_JAM = 7;
    private static final int ASK_SEATS = 8;
    private static final int ASKS = 9;

    private static final int OP_NUMBER = 0;
    private static final int OP_ASK = 1;
    private static final int OP_PART = 2;
    private static final int OP_NOT = 3;
    private static final int OP_TIMES = 4;
    private static final int OP_PLUS = 5;
    private static final int OP_MINUS = 6;
    private static final int OP_LESS = 7;
    private static final int OP_SAME = 8;
    private static final int OP_MORE = 9;
    private static final int OP_AND = 10;
    private static final int OP_OR = 11;
    private static final int OP_BITS = 4;
    private static final int OP_MASK = 15;
    /** Nine levels of ( and not leave two values each, a comparison four more: 22 at most. */
    private static final int STACK = 32;

    private final Whole now = new Whole();
    private final Commune here = now.commune;
    private final Whole picture = new Whole();
    private boolean isPicture;
    private final Commune[] kept = new Commune[KEPT];
    private int keptCount;
    private int keptNext;
    private final Reader reader = new Reader();
    private final Tape tape = reader.tape;
    private final Season lived = new Season(true);
    private final Season imagined = new Season(false);
    private final Commune thought = new Commune();
    private final long[] ways = new long[MOST_LEFT + 1];

    public BallotFruit() {
        for (int i = 0; i < KEPT; i++) {
            kept[i] = new Commune();
        }
    }

    public int state(int v) {
        int was = here.state;
        here.state = v;
        forget();
        return was;
    }

    public int party(int store) {
        if (!isWithin(store, 0, MOST_STORE) || here.parties >= PARTIES) {
            return NONE;
        }
        forget();
        return here.addParty(store);
    }

    public int eater(int hunger) {
        if (!isWithin(hunger, 0, MOST_HUNGER) || here.eaters >= EATERS) {
            return NONE;
        }
        forget();
        return here.addEater(hunger);
    }

    public boolean taste(int eater, int party, int v) {
        if (!here.isEater(eater) || !here.isParty(party) || !isWithin(v, 0, MOST_TASTE)) {
            return false;
        }
        here.tastes[eater * PARTIES + party] = v;
        forget();
        return true;
    }

    public boolean set(int what, int who, int v) {
        boolean is = what < 4 ? here.setRule(what, v) : here.setValue(what, who, v);
        if (is) {
            forget();
        }
        return is;
    }

    public int plant(int party, int place, int age) {
        boolean can = here.isParty(party) && isPlace(place) && isWithin(age, 0, MOST_AGE);
        if (!can || here.trees >= TREES) {
            return NONE;
        }
        keep();
        int t = here.addTree(party, place, age);
        now.pages.write(here, PLANTED, t, 0);
        return t;
    }

    public boolean fence(int place, boolean is) {
        if (!isPlace(place) || here.isFenced(place) == is) {
            return false;
        }
        keep();
        here.turnFence(place);
        now.pages.write(here, is ? FENCED : OPENED, place, 0);
        return true;
    }

    public int boil(int party, int n) {
        if (!here.isParty(party) || !isWithin(n, 1, MOST_BOILED)) {
            return NONE;
        }
        keep();
        int fruits = here.cook(party, n);
        now.pages.write(here, BOILED, party, fruits);
        return fruits;
    }

    public int weeks(int n) {
        if (!isWithin(n, 1, WEEKS_AT_ONCE) || here.week + n > MOST_WEEK) {
            return NONE;
        }
        int hungry = 0;
        for (int i = 0; i < n; i++) {
            keep();
            lived.pass(now, here, 1);
            hungry += lived.hungry;
        }
        return hungry;
    }

    public int feed(int a, int b, int c, int d, int e) {
        if (tape.length + FEED_BYTES > TAPE_BYTES) {
            return NONE;
        }
        tape.addFour(a);
        tape.addFour(b);
        tape.addFour(c);
        tape.addFour(d);
        tape.addFour(e);
        return tape.length;
    }

    public boolean end(int n) {
        if (!isWithin(n, 0, tape.length)) {
            return false;
        }
        tape.length = n;
        return true;
    }

    public int text(int k) {
        reader.begin(here.parties, here.eaters);
        int lines = NONE;
        switch (k) {
            case 0: lines = reader.readLaw(now.law); break;
            case 1: lines = reader.readPaths(now.paths); break;
            case 2: lines = reader.readPlan(now.plan); break;
            default: break;
        }
        // also where there is no such text
        tape.length = 0;
        if (lines != NONE && k != 0) {
            forget();
        }
        return lines;
    }

    public int fault(int what) {
        if (what == 0) {
            return reader.wrong;
        }
        return what == 1 ? reader.wrongPlace : NONE;
    }

    public int of(int party, int what) {
        if (!here.isParty(party)) {
            return NONE;
        }
        switch (what) {
            case 0: return here.store[party];
            case 1: return here.votes[party];
            case 2: return here.seats[party];
            case 3: return here.hangingOf(party);
            default: return NONE;
        }
    }

    public int tree(int t, int what) {
        if (!here.isTree(t)) {
            return NONE;
        }
        switch (what) {
            case 0: return here.treeParty[t];
            case 1: return here.treePlace[t];
            case 2: return here.treeAge[t];
            case 3: return here.hanging[t];
            case 4: return now.law.bears(here, t);
            default: return NONE;
        }
    }

    public int who(int eater, int what) {
        if (!here.isEater(eater)) {
            return NONE;
        }
        switch (what) {
            case 0: return here.hungers[eater];
            case 1: return now.law.wants(here, eater);
            case 2: return now.paths.lengths[eater];
            default: break;
        }
        if (isWithin(what, 10, 10 + STEPS - 1)) {
            return now.paths.step(eater, what - 10);
        }
        if (isWithin(what, 20, 20 + PARTIES - 1) && here.isParty(what - 20)) {
            return here.tasteFor(eater, what - 20);
        }
        return NONE;
    }

    public int at(int place) {
        if (!isPlace(place)) {
            return NONE;
        }
        return here.isFenced(place) ? 1 : 0;
    }

    public int book(int i, int what) {
        if (!isWithin(i, 0, here.lines - 1) || !isWithin(what, 0, BOOK_ROW - 1)) {
            return NONE;
        }
        return now.pages.rows[i * BOOK_ROW + what];
    }

    public int goes(int n, int party, int what) {
        boolean can = isWithin(n, 1, WEEKS_AT_ONCE) && isWithin(what, 0, 3);
        if (!can || what < 2 && !here.isParty(party)) {
            return NONE - 1;
        }
        thought.copyFrom(here);
        imagined.pass(now, thought, n);
        switch (what) {
            case 0: return thought.seats[party];
            case 1: return thought.votes[party];
            case 2: return imagined.firstHungry;
            default: return imagined.firstWeek;
        }
    }

    public int falls(int party) {
        if (!here.isParty(party)) {
            return NONE;
        }
        thought.copyFrom(here);
        thought.seatAnew();
        return thought.seats[party];
    }

    public int brings(int party, int n, int what) {
        boolean can = here.isParty(party) && isWithin(n, 1, WEEKS_IN_THOUGHT) && isWithin(what, 0, 1);
        if (!can || here.trees >= TREES) {
            return NONE;
        }
        int best = NONE;
        int most = NONE;
        for (int place = 0; place < PLACES; place++) {
            thought.copyFrom(here);
            thought.addTree(party, place, NEW_TREE_AGE);
            imagined.pass(now, thought, n);
            if (imagined.counted[party] > most) {
                best = place;
                most = imagined.counted[party];
            }
        }
        return what == 0 ? best : most;
    }

    public int swings(int tree, int n) {
        if (!here.isTree(tree) || !isWithin(n, 1, WEEKS_IN_THOUGHT)) {
            return NONE;
        }
        int enough = weeksToLastSeating(n);
        if (enough == 0) {
            return NONE;
        }
        int first = firstPartyBehind(tree, 0, enough);
        for (int less = 1; less <= here.hanging[tree]; less++) {
            if (firstPartyBehind(tree, less, enough) != first) {
                return less;
            }
        }
        return NONE;
    }

    public int feeds(int what) {
        if (!isWithin(what, 0, 1)) {
            return NONE;
        }
        int best = (1 << PLACES) - 1;
        for (int places = (1 << PLACES) - 1; places >= 0; places--) {
            if (Integer.bitCount(places) <= Integer.bitCount(best) && isEachFedAt(places)) {
                best = places;
            }
        }
        return what == 0 ? Integer.bitCount(best) : best;
    }

    public int core(int party, int place) {
        if (party == NONE) {
            now.cores.count = 0;
            return 0;
        }
        if (!here.isParty(party) || !isPlace(place) || now.cores.count >= CORES) {
            return NONE;
        }
        return now.cores.add(party, place);
    }

    public int whose(int what) {
        if (!isWithin(what, 0, 1)) {
            return NONE;
        }
        int eaters = 0;
        for (int e = 0; e < here.eaters; e++) {
            if (now.cores.canBeOf(here, e, now.paths.passed[e])) {
                eaters |= 1 << e;
            }
        }
        return what == 0 ? eaters : askNext(eaters);
    }

    public int left(int k) {
        if (!isWithin(k, 0, MOST_LEFT)) {
            return NONE;
        }
        ways[0] = 1;
        for (int i = 1; i <= k; i++) {
            ways[i] = 0;
        }
        for (int e = 0; e < here.eaters; e++) {
            leaveUpTo(now.law.wants(here, e), k);
        }
        return (int) ways[k];
    }

    public int rules(int what) {
        int all = here.seatsOf((1 << PARTIES) - 1);
        if (!isWithin(what, 0, 1) || all == 0) {
            return NONE;
        }
        int best = (1 << here.parties) - 1;
        for (int parties = best; parties > 0; parties--) {
            boolean rule = 2 * here.seatsOf(parties) > all;
            if (rule && Integer.bitCount(parties) <= Integer.bitCount(best)) {
                best = parties;
            }
        }
        return what == 0 ? Integer.bitCount(best) : best;
    }

    public int weighs(int party) {
        if (!here.isParty(party)) {
            return NONE;
        }
        int all = here.seatsOf((1 << PARTIES) - 1);
        int own = here.seats[party];
        int turned = 0;
        for (int others = 0; others < 1 << here.parties; others++) {
            int together = here.seatsOf(others);
            boolean isOther = (others >> party & 1) == 0;
            if (isOther && 2 * together <= all && 2 * (together + own) > all) {
                turned++;
            }
        }
        return turned;
    }

    public int lasts(int party) {
        if (!here.isParty(party)) {
            return NONE;
        }
        int spoons = 0;
        for (int e = 0; e < here.eaters; e++) {
            if (here.tasteFor(e, party) > 0) {
                spoons += now.law.wants(here, e);
            }
        }
        return spoons > 0 ? (here.store[party] + spoons - 1) / spoons : NONE;
    }

    public int meets(int a, int b) {
        if (!here.isEater(a) || !here.isEater(b)) {
            return NONE;
        }
        return now.paths.passed[a] & now.paths.passed[b];
    }

    public int game(int what) {
        if (!isWithin(what, 0, 1)) {
            return NONE;
        }
        int sum = 0;
        for (int t = 0; t < here.trees; t++) {
            sum ^= here.hanging[t] & 3;
        }
        for (int t = 0; t < here.trees && sum != 0; t++) {
            int n = goodPick(here.hanging[t], sum);
            if (n != NONE) {
                return what == 0 ? t : n;
            }
        }
        return NONE;
    }

    public boolean undo() {
        if (keptCount == 0) {
            return false;
        }
        keptNext = keptNext > 0 ? keptNext - 1 : KEPT - 1;
        keptCount--;
        here.copyFrom(kept[keptNext]);
        return true;
    }

    public boolean image(boolean taken) {
        if (taken) {
            picture.copyFrom(now);
            isPicture = true;
            return true;
        }
        if (!isPicture) {
            return false;
        }
        now.copyFrom(picture);
        forget();
        return true;
    }

    public int look(int what) {
        switch (what) {
            case 0: return here.parties;
            case 1: return here.trees;
            case 2: return here.eaters;
            case 3: return here.week;
            case 4: return here.bad;
            case 5: return here.wasps;
            case 6: return here.chairs;
            case 7: return here.every;
            case 8: return here.lines;
            case 9: return here.state;
            case 10: return now.law.lines;
            case 11: return now.paths.lines;
            case 12: return now.plan.lines;
            case 13: return now.cores.count;
            case 14: return keptCount;
            case 15: return here.fences;
            default: return NONE;
        }
    }

    private static boolean isWithin(int v, int least, int most) {
        return v >= least && v <= most;
    }

    private static boolean isPlace(int place) {
        return place >= 0 && place < PLACES;
    }

    private void forget() {
        keptCount = 0;
    }

    private void keep() {
        kept[keptNext].copyFrom(here);
        keptNext = keptNext < KEPT - 1 ? keptNext + 1 : 0;
        keptCount = Math.min(KEPT, keptCount + 1);
    }

    /** Behind the last seating SEATS stay, so that the weeks behind it needn't be thought through. */
    private int weeksToLastSeating(int n) {
        for (int i = n; i > 0; i--) {
            if (here.every > 0 && (here.week + i) % here.every == 0) {
                return i;
            }
        }
        return 0;
    }

    private int firstPartyBehind(int tree, int less, int n) {
        thought.copyFrom(here);
        thought.hanging[tree] -= less;
        imagined.pass(now, thought, n);
        return thought.partyWithMostSeats();
    }

    private boolean isEachFedAt(int places) {
        for (int e = 0; e < here.eaters; e++) {
            int passed = now.paths.passed[e];
            if (passed != 0 && (passed & places) == 0) {
                return false;
            }
        }
        return true;
    }

    private int askNext(int eaters) {
        int all = Integer.bitCount(eaters);
        if (all < 2) {
            return NONE;
        }
        int best = NONE;
        int least = all + 1;
        for (int p = 0; p < here.parties; p++) {
            int fond = 0;
            for (int e = 0; e < here.eaters; e++) {
                if ((eaters >> e & 1) == 1 && here.tasteFor(e, p) >= FIRST_TASTE) {
                    fond++;
                }
            }
            int greater = Math.max(fond, all - fond);
            if (greater < least) {
                best = p;
                least = greater;
            }
        }
        return best;
    }

    /** One more eater; from k downwards, so that what is added has not been added to yet. */
    private void leaveUpTo(int want, int k) {
        for (int i = k; i >= 0; i--) {
            long sum = 0;
            for (int own = 0; own <= want && own <= i; own++) {
                sum += ways[i - own];
            }
            ways[i] = sum % MODULUS;
        }
    }

    /** A tree with h hanging is worth h modulo 4; a good pick makes the worths of all cancel out. */
    private static int goodPick(int hanging, int sum) {
        int worth = (hanging & 3) ^ sum;
        for (int n = 1; n <= 3 && n <= hanging; n++) {
            if ((hanging - n & 3) == worth) {
                return n;
            }
        }
        return NONE;
    }

    /** What weeks change and undo() brings back; sets of places and parties are bits. */
    private static final class Commune {
        int week;
        int state;
        int bad;
        int wasps;
        int chairs = 9;
        int every = 4;
        int fences;
        int parties;
        int trees;
        int eaters;
        /** How many lines of THE BOOK are written: the rows behind them are free, so undo need not copy rows. */
        int lines;
        final int[] store = new int[PARTIES];
        final int[] votes = new int[PARTIES];
        final int[] seats = new int[PARTIES];
        final int[] treeParty = new int[TREES];
        final int[] treePlace = new int[TREES];
        final int[] treeAge = new int[TREES];
        final int[] hanging = new int[TREES];
        final int[] hungers = new int[EATERS];
        final int[] tastes = new int[EATERS * PARTIES];

        void copyFrom(Commune c) {
            week = c.week;
            state = c.state;
            bad = c.bad;
            wasps = c.wasps;
            chairs = c.chairs;
            every = c.every;
            fences = c.fences;
            parties = c.parties;
            trees = c.trees;
            eaters = c.eaters;
            lines = c.lines;
            System.arraycopy(c.store, 0, store, 0, PARTIES);
            System.arraycopy(c.votes, 0, votes, 0, PARTIES);
            System.arraycopy(c.seats, 0, seats, 0, PARTIES);
            System.arraycopy(c.treeParty, 0, treeParty, 0, TREES);
            System.arraycopy(c.treePlace, 0, treePlace, 0, TREES);
            System.arraycopy(c.treeAge, 0, treeAge, 0, TREES);
            System.arraycopy(c.hanging, 0, hanging, 0, TREES);
            System.arraycopy(c.hungers, 0, hungers, 0, EATERS);
            System.arraycopy(c.tastes, 0, tastes, 0, EATERS * PARTIES);
        }

        boolean isParty(int p) {
            return p >= 0 && p < parties;
        }

        boolean isTree(int t) {
            return t >= 0 && t < trees;
        }

        boolean isEater(int e) {
            return e >= 0 && e < eaters;
        }

        boolean isFenced(int place) {
            return (fences >> place & 1) == 1;
        }

        void turnFence(int place) {
            fences ^= 1 << place;
        }

        int tasteFor(int e, int p) {
            return tastes[e * PARTIES + p];
        }

        int addParty(int spoons) {
            int p = parties;
            store[p] = spoons;
            votes[p] = 0;
            seats[p] = 0;
            parties++;
            return p;
        }

        int addEater(int hunger) {
            int e = eaters;
            hungers[e] = hunger;
            for (int p = 0; p < PARTIES; p++) {
                tastes[e * PARTIES + p] = FIRST_TASTE;
            }
            eaters++;
            return e;
        }

        int addTree(int party, int place, int age) {
            int t = trees;
            treeParty[t] = party;
            treePlace[t] = place;
            treeAge[t] = age;
            hanging[t] = 0;
            trees++;
            return t;
        }

        boolean setRule(int what, int v) {
            if (what == 0 && isWithin(v, 0, THOUSAND)) {
                bad = v;
            } else if (what == 1 && isWithin(v, 0, THOUSAND)) {
                wasps = v;
            } else if (what == 2 && isWithin(v, 1, MOST_CHAIRS)) {
                chairs = v;
            } else if (what == 3 && isWithin(v, 1, YEAR)) {
                every = v;
            } else {
                return false;
            }
            return true;
        }

        boolean setValue(int what, int who, int v) {
            if (what == 4 && isTree(who) && isWithin(v, 0, MOST_HANGING)) {
                hanging[who] = v;
            } else if (what == 5 && isEater(who) && isWithin(v, 0, MOST_HUNGER)) {
                hungers[who] = v;
            } else if (what == 6 && isParty(who) && isWithin(v, 0, MOST_STORE)) {
                store[who] = v;
            } else if (what == 7 && isParty(who) && isWithin(v, 0, MOST_VOTES)) {
                votes[who] = v;
            } else {
                return false;
            }
            return true;
        }

        int drawOfThousand() {
            state = 1664525 * state + 1013904223;
            return (state >>> 8) % THOUSAND;
        }

        /** Up to n fruits of the party's trees become spoons: how many fruits. */
        int cook(int party, int n) {
            int fruits = 0;
            for (int t = 0; t < trees && fruits < n; t++) {
                if (treeParty[t] == party) {
                    int some = Math.min(n - fruits, hanging[t]);
                    hanging[t] -= some;
                    fruits += some;
                }
            }
            store[party] = Math.min(MOST_STORE, store[party] + fruits);
            return fruits;
        }

        int hangingOf(int party) {
            int sum = 0;
            for (int t = 0; t < trees; t++) {
                if (treeParty[t] == party) {
                    sum += hanging[t];
                }
            }
            return sum;
        }

        int treeFor(int e, int place) {
            int best = NONE;
            int most = 0;
            for (int t = 0; t < trees; t++) {
                if (treePlace[t] == place && hanging[t] > 0 && tasteFor(e, treeParty[t]) > most) {
                    best = t;
                    most = tasteFor(e, treeParty[t]);
                }
            }
            return best;
        }

        int jamFor(int e) {
            int best = NONE;
            int most = 0;
            for (int p = 0; p < parties; p++) {
                if (store[p] > 0 && tasteFor(e, p) > most) {
                    best = p;
                    most = tasteFor(e, p);
                }
            }
            return best;
        }

        int seatsOf(int set) {
            int sum = 0;
            for (int p = 0; p < parties; p++) {
                if ((set >> p & 1) == 1) {
                    sum += seats[p];
                }
            }
            return sum;
        }

        int partyWithMostSeats() {
            int best = NONE;
            for (int p = 0; p < parties; p++) {
                if (best == NONE || seats[p] > seats[best]) {
                    best = p;
                }
            }
            return best;
        }

        void seatAnew() {
            int all = 0;
            for (int p = 0; p < parties; p++) {
                all += votes[p];
            }
            if (all <= 0) {
                return;
            }
            int spare = chairs;
            for (int p = 0; p < parties; p++) {
                seats[p] = votes[p] * chairs / all;
                spare -= seats[p];
            }
            int lucky = 0;
            for (int i = 0; i < spare; i++) {
                int p = greatestRemainder(all, lucky);
                if (p != NONE) {
                    seats[p]++;
                    lucky |= 1 << p;
                }
            }
        }

        /** None of the lucky, so that the seats of all that are compared are those downwards; all is above 0. */
        private int greatestRemainder(int all, int lucky) {
            int best = NONE;
            int most = NONE;
            for (int p = 0; p < parties; p++) {
                if ((lucky >> p & 1) == 0) {
                    int rest = all > 0 ? votes[p] * chairs % all : 0;
                    if (best == NONE || rest > most || rest == most && seats[p] > seats[best]) {
                        best = p;
                        most = rest;
                    }
                }
            }
            return best;
        }

        void growOlder() {
            for (int t = 0; t < trees; t++) {
                treeAge[t] = Math.min(MOST_AGE, treeAge[t] + 1);
            }
        }
    }

    /** THE LAW, each line as code for a stack: first its E, then its B. */
    private static final class Law {
        int lines;
        final int[] words = new int[TEXT_LINES];
        /** Where each line's code begins, and one more: where the last one's ends. */
        final int[] starts = new int[TEXT_LINES + 1];
        final int[] whens = new int[TEXT_LINES];
        final int[] code = new int[TAPE_BYTES];
        int length;
        /** Whether a line of count asks for hanging: else all fruits of a tree count alike for one eater. */
        boolean countsByHanging;
        private final int[] stack = new int[STACK];
        private final int[] asked = new int[ASKS];

        void copyFrom(Law law) {
            lines = law.lines;
            length = law.length;
            countsByHanging = law.countsByHanging;
            System.arraycopy(law.words, 0, words, 0, TEXT_LINES);
            System.arraycopy(law.starts, 0, starts, 0, TEXT_LINES + 1);
            System.arraycopy(law.whens, 0, whens, 0, TEXT_LINES);
            System.arraycopy(law.code, 0, code, 0, TAPE_BYTES);
        }

        void clear() {
            lines = 0;
            length = 0;
            countsByHanging = false;
        }

        /** Each part of the code comes of a token of its own, so that there is room for all of a tape. */
        void emit(int op, int value) {
            if (length < TAPE_BYTES) {
                code[length] = value << OP_BITS | op;
                length++;
            }
        }

        int bears(Commune c, int t) {
            ask(c, c.treeParty[t]);
            askTree(c, t);
            return hold(tell(LAW_BEAR, c.treeAge[t] / 5), MOST_HANGING);
        }

        int wants(Commune c, int e) {
            ask(c, NONE);
            asked[ASK_HUNGER] = c.hungers[e];
            return hold(tell(LAW_WANT, c.hungers[e]), MOST_HUNGER);
        }

        /** What a fruit of tree t counts, or, if t is NONE, a spoon of jam. */
        int counts(Commune c, int e, int p, int t) {
            ask(c, p);
            asked[ASK_HUNGER] = c.hungers[e];
            asked[ASK_TASTE] = c.tasteFor(e, p);
            if (t == NONE) {
                asked[ASK_JAM] = 1;
            } else {
                askTree(c, t);
            }
            return hold(tell(LAW_COUNT, 1), MOST_COUNT);
        }

        private static int hold(int v, int most) {
            return Math.max(0, Math.min(most, v));
        }

        private void ask(Commune c, int party) {
            for (int i = 0; i < ASKS; i++) {
                asked[i] = 0;
            }
            asked[ASK_WEEK] = c.week % YEAR;
            if (c.isParty(party)) {
                asked[ASK_PARTY] = party;
                asked[ASK_SEATS] = c.seats[party];
            }
        }

        private void askTree(Commune c, int t) {
            asked[ASK_PLACE] = c.treePlace[t];
            asked[ASK_AGE] = c.treeAge[t];
            asked[ASK_HANGING] = c.hanging[t];
        }

        private int tell(int word, int otherwise) {
            for (int i = 0; i < lines; i++) {
                if (words[i] == word && (whens[i] == starts[i + 1] || value(whens[i], starts[i + 1]) != 0)) {
                    return value(starts[i], whens[i]);
                }
            }
            return otherwise;
        }

        /** One method, though long: it is the innermost of all that weeks in thought do. */
        private int value(int from, int to) {
            int top = NONE;
            for (int i = from; i < to; i++) {
                int op = code[i] & OP_MASK;
                int number = code[i] >> OP_BITS;
                if (op == OP_NUMBER || op == OP_ASK) {
                    if (top < STACK - 1) {
                        top++;
                        stack[top] = op == OP_NUMBER ? number : asked[number];
                    }
                } else if (op == OP_PART) {
                    if (top >= 0 && number != 0) {
                        stack[top] /= number;
                    }
                } else if (op == OP_NOT) {
                    if (top >= 0) {
                        stack[top] = stack[top] == 0 ? 1 : 0;
                    }
                } else if (top >= 1) {
                    int b = stack[top];
                    top--;
                    int a = stack[top];
                    switch (op) {
                        case OP_TIMES: stack[top] = a * b; break;
                        case OP_PLUS: stack[top] = a + b; break;
                        case OP_MINUS: stack[top] = a - b; break;
                        case OP_LESS: stack[top] = a < b ? 1 : 0; break;
                        case OP_SAME: stack[top] = a == b ? 1 : 0; break;
                        case OP_MORE: stack[top] = a > b ? 1 : 0; break;
                        case OP_AND: stack[top] = a & b; break;
                        default: stack[top] = a | b; break;
                    }
                }
            }
            return top >= 0 ? stack[top] : 0;
        }
    }

    /** PATHS: of each eater the places one behind the other. */
    private static final class Paths {
        int lines;
        final int[] lengths = new int[EATERS];
        final int[] steps = new int[EATERS * STEPS];
        /** Of each eater the set of the places passed. */
        final int[] passed = new int[EATERS];

        void copyFrom(Paths paths) {
            lines = paths.lines;
            System.arraycopy(paths.passed, 0, passed, 0, EATERS);
            System.arraycopy(paths.lengths, 0, lengths, 0, EATERS);
            System.arraycopy(paths.steps, 0, steps, 0, EATERS * STEPS);
        }

        void clear() {
            lines = 0;
            for (int e = 0; e < EATERS; e++) {
                clearPath(e);
            }
        }

        void clearPath(int e) {
            lengths[e] = 0;
            passed[e] = 0;
        }

        void addStep(int e, int place) {
            if (lengths[e] < STEPS) {
                steps[e * STEPS + lengths[e]] = place;
                lengths[e]++;
                passed[e] |= 1 << place;
            }
        }

        int step(int e, int i) {
            return i >= 0 && i < lengths[e] ? steps[e * STEPS + i] : NONE;
        }
    }

    /** A PLAN: its lines as they were told; what is the word's token. */
    private static final class Plan {
        int lines;
        final int[] weeks = new int[TEXT_LINES];
        final int[] whats = new int[TEXT_LINES];
        final int[] whos = new int[TEXT_LINES];
        /** The PLACE of a planting, the N of a boiling. */
        final int[] others = new int[TEXT_LINES];

        void copyFrom(Plan plan) {
            lines = plan.lines;
            System.arraycopy(plan.weeks, 0, weeks, 0, TEXT_LINES);
            System.arraycopy(plan.whats, 0, whats, 0, TEXT_LINES);
            System.arraycopy(plan.whos, 0, whos, 0, TEXT_LINES);
            System.arraycopy(plan.others, 0, others, 0, TEXT_LINES);
        }
    }

    private static final class Cores {
        int count;
        private final int[] parties = new int[CORES];
        private final int[] places = new int[CORES];

        void copyFrom(Cores cores) {
            count = cores.count;
            System.arraycopy(cores.parties, 0, parties, 0, CORES);
            System.arraycopy(cores.places, 0, places, 0, CORES);
        }

        int add(int party, int place) {
            if (count < CORES) {
                parties[count] = party;
                places[count] = place;
                count++;
            }
            return count;
        }

        boolean canBeOf(Commune c, int e, int passed) {
            for (int i = 0; i < count; i++) {
                if ((passed >> places[i] & 1) == 0 || c.tasteFor(e, parties[i]) == 0) {
                    return false;
                }
            }
            return true;
        }
    }

    /** The rows of THE BOOK; how many of them are written, the commune knows. */
    private static final class Pages {
        final int[] rows = new int[BOOK_LINES * BOOK_ROW];

        void copyFrom(Pages pages) {
            System.arraycopy(pages.rows, 0, rows, 0, BOOK_LINES * BOOK_ROW);
        }

        void write(Commune c, int what, int who, int many) {
            if (c.lines >= BOOK_LINES) {
                return;
            }
            int i = c.lines * BOOK_ROW;
            rows[i] = c.week;
            rows[i + 1] = what;
            rows[i + 2] = who;
            rows[i + 3] = many;
            c.lines++;
        }
    }

    /** All that is and was told, as THE IMAGE takes it. */
    private static final class Whole {
        final Commune commune = new Commune();
        final Law law = new Law();
        final Paths paths = new Paths();
        final Plan plan = new Plan();
        final Cores cores = new Cores();
        final Pages pages = new Pages();

        void copyFrom(Whole whole) {
            commune.copyFrom(whole.commune);
            law.copyFrom(whole.law);
            paths.copyFrom(whole.paths);
            plan.copyFrom(whole.plan);
            cores.copyFrom(whole.cores);
            pages.copyFrom(whole.pages);
        }
    }

    /** Weeks that go by, in truth or in thought, and what is to be known of them afterwards. */
    private static final class Season {
        /** In thought there are no draws, and nothing is written. */
        private final boolean isTrue;
        int hungry;
        int firstHungry;
        int firstWeek;
        /** What votes grew by, also those that became seats since. */
        final int[] counted = new int[PARTIES];

        Season(boolean isTrue) {
            this.isTrue = isTrue;
        }

        void pass(Whole all, Commune c, int weeks) {
            begin();
            for (int i = 0; i < weeks; i++) {
                follow(all, c);
                for (int t = 0; t < c.trees; t++) {
                    c.hanging[t] = Math.min(MOST_HANGING, c.hanging[t] + all.law.bears(c, t));
                }
                for (int e = 0; e < c.eaters; e++) {
                    eat(all, c, e);
                }
                if (isTrue && c.wasps > 0) {
                    sting(all, c);
                }
                if (c.every > 0 && (c.week + 1) % c.every == 0) {
                    vote(all, c);
                }
                c.week++;
                if (c.week % YEAR == 0) {
                    c.growOlder();
                }
            }
        }

        private void begin() {
            hungry = 0;
            firstHungry = NONE;
            firstWeek = NONE;
            for (int p = 0; p < PARTIES; p++) {
                counted[p] = 0;
            }
        }

        private void follow(Whole all, Commune c) {
            for (int i = 0; i < all.plan.lines; i++) {
                if (all.plan.weeks[i] == c.week) {
                    act(all, c, i);
                }
            }
        }

        private void note(Whole all, Commune c, int what, int who, int many) {
            if (isTrue) {
                all.pages.write(c, what, who, many);
            }
        }

        private void act(Whole all, Commune c, int line) {
            int what = all.plan.whats[line];
            int who = all.plan.whos[line];
            int other = all.plan.others[line];
            if (what == WORD_PLANT) {
                if (c.trees < TREES) {
                    note(all, c, PLANTED, c.addTree(who, other, 0), 0);
                }
            } else if (what == WORD_BOIL) {
                note(all, c, BOILED, who, c.cook(who, other));
            } else if (what == WORD_CHEESE) {
                c.hungers[who] = Math.min(MOST_HUNGER, 2 * c.hungers[who]);
            } else if (c.isFenced(who) != (what == WORD_FENCE)) {
                c.turnFence(who);
                note(all, c, what == WORD_FENCE ? FENCED : OPENED, who, 0);
            }
        }

        private void eat(Whole all, Commune c, int e) {
            int would = all.law.wants(c, e);
            for (int i = 0; i < all.paths.lengths[e] && would > 0; i++) {
                int place = all.paths.step(e, i);
                if (!c.isFenced(place)) {
                    would = pick(all, c, e, place, would);
                }
            }
            would = spoon(all, c, e, would);
            if (would > 0) {
                note(all, c, HUNGRY, e, would);
                hungry++;
                if (firstHungry == NONE) {
                    firstHungry = e;
                    firstWeek = c.week;
                }
            }
        }

        /** How many he would still eat behind this place: none behind a bad one. */
        private int pick(Whole all, Commune c, int e, int place, int would) {
            int still = would;
            // tastes stay while all are good, so that a tree stays the best one until it is empty
            for (int i = 0; i < TREES && still > 0; i++) {
                int t = c.treeFor(e, place);
                if (t == NONE) {
                    return still;
                }
                int p = c.treeParty[t];
                int worth = NONE;
                for (int n = c.hanging[t]; n > 0 && still > 0; n--) {
                    if (worth == NONE || all.law.countsByHanging) {
                        worth = all.law.counts(c, e, p, t);
                    }
                    count(c, p, worth);
                    c.hanging[t]--;
                    still--;
                    if (isTrue && c.bad > 0 && c.drawOfThousand() < c.bad) {
                        c.tastes[e * PARTIES + p] = Math.max(0, c.tasteFor(e, p) - 2);
                        note(all, c, BAD_ONE, e, p);
                        return 0;
                    }
                }
            }
            return still;
        }

        private int spoon(Whole all, Commune c, int e, int would) {
            int still = would;
            for (int i = 0; i < PARTIES && still > 0; i++) {
                int p = c.jamFor(e);
                if (p == NONE) {
                    return still;
                }
                int worth = all.law.counts(c, e, p, NONE);
                int spoons = Math.min(still, c.store[p]);
                count(c, p, worth * spoons);
                c.store[p] -= spoons;
                still -= spoons;
            }
            return still;
        }

        private void count(Commune c, int p, int n) {
            int gets = Math.min(n, MOST_VOTES - c.votes[p]);
            c.votes[p] += gets;
            counted[p] += gets;
        }

        private void sting(Whole all, Commune c) {
            for (int t = 0; t < c.trees; t++) {
                if (c.hanging[t] >= 10 && c.drawOfThousand() < c.wasps) {
                    int gone = c.hanging[t] / 10;
                    c.hanging[t] -= gone;
                    note(all, c, WASPS, t, gone);
                }
            }
        }

        private void vote(Whole all, Commune c) {
            c.seatAnew();
            for (int p = 0; p < c.parties; p++) {
                c.votes[p] = 0;
            }
            int most = c.partyWithMostSeats();
            note(all, c, SEATED, most, most == NONE ? 0 : c.seats[most]);
        }
    }

    /** The TAPE, and how it falls into tokens. */
    private static final class Tape {
        final int[] bytes = new int[TAPE_BYTES];
        int length;
        /** One more than bytes: the end is a token too. */
        final int[] kinds = new int[TAPE_BYTES + 1];
        final int[] places = new int[TAPE_BYTES + 1];
        final int[] values = new int[TAPE_BYTES + 1];
        int tokens;

        void addFour(int v) {
            for (int shift = 24; shift >= 0 && length < TAPE_BYTES; shift -= 8) {
                bytes[length] = v >>> shift & 255;
                length++;
            }
        }

        void cut(String words) {
            tokens = 0;
            int to = 0;
            for (int from = 0; from < length; from = to) {
                int b = bytes[from];
                to = from + 1;
                if (isLetter(b)) {
                    while (to < length && isLetter(bytes[to])) {
                        to++;
                    }
                    addToken(word(words, from, to), from, 0);
                } else if (isDigit(b)) {
                    while (to < length && isDigit(bytes[to])) {
                        to++;
                    }
                    addToken(to - from <= 4 ? TOKEN_NUMBER : TOKEN_NOTHING, from, number(from, to));
                } else if (b != ' ' && b != 10) {
                    addToken(isSign(b) ? b : TOKEN_NOTHING, from, 0);
                }
            }
            addToken(TOKEN_END, length, 0);
        }

        private void addToken(int kind, int place, int value) {
            if (tokens <= TAPE_BYTES) {
                kinds[tokens] = kind;
                places[tokens] = place;
                values[tokens] = value;
                tokens++;
            }
        }

        private static boolean isLetter(int b) {
            return b >= 'a' && b <= 'z' || b >= 'A' && b <= 'Z';
        }

        private static boolean isDigit(int b) {
            return b >= '0' && b <= '9';
        }

        private static boolean isSign(int b) {
            return b >= '(' && b <= '+' || b == '-' || b == '/' || b >= ';' && b <= '>';
        }

        /** Of more than four digits the number wraps, but nobody asks for it then. */
        private int number(int from, int to) {
            int v = 0;
            for (int i = from; i < to; i++) {
                v = 10 * v + bytes[i] - '0';
            }
            return v;
        }

        private int word(String words, int from, int to) {
            int number = 0;
            int i = from;
            boolean isLike = true;
            for (int k = 0; k < words.length(); k++) {
                char c = words.charAt(k);
                if (c != ' ') {
                    isLike = isLike && i < to && bytes[i] == c;
                    i++;
                } else if (isLike && i == to) {
                    return TOKEN_WORD + number;
                } else {
                    number++;
                    i = from;
                    isLike = true;
                }
            }
            return TOKEN_NOTHING;
        }
    }

    /** Reads the TAPE as a TEXT, token by token up to the first FAULT. */
    private static final class Reader {
        int wrong;
        int wrongPlace = NONE;
        final Tape tape = new Tape();
        private final Law law = new Law();
        private final Paths paths = new Paths();
        private final Plan plan = new Plan();
        private int next;
        private int parties;
        private int eaters;

        void begin(int parties, int eaters) {
            this.parties = parties;
            this.eaters = eaters;
            wrong = 0;
            wrongPlace = NONE;
            next = 0;
        }

        int readLaw(Law into) {
            tape.cut(LAW_WORDS);
            law.clear();
            for (int i = 0; i <= TEXT_LINES && kind() != TOKEN_END; i++) {
                if (!lawLine(i)) {
                    return NONE;
                }
            }
            law.starts[law.lines] = law.length;
            into.copyFrom(law);
            return law.lines;
        }

        int readPaths(Paths into) {
            tape.cut(PATH_WORDS);
            paths.clear();
            for (int i = 0; i <= TEXT_LINES && kind() != TOKEN_END; i++) {
                if (!pathLine(i)) {
                    return NONE;
                }
            }
            into.copyFrom(paths);
            return paths.lines;
        }

        int readPlan(Plan into) {
            tape.cut(PLAN_WORDS);
            plan.lines = 0;
            for (int i = 0; i <= TEXT_LINES && kind() != TOKEN_END; i++) {
                if (!planLine(i)) {
                    return NONE;
                }
            }
            into.copyFrom(plan);
            return plan.lines;
        }

        private boolean lawLine(int i) {
            int word = kind();
            if (!isWithin(word, TOKEN_WORD, WORD_COUNT)) {
                return fail(1);
            }
            if (i >= TEXT_LINES) {
                return fail(3);
            }
            next++;
            law.words[i] = word - TOKEN_WORD;
            law.starts[i] = law.length;
            if (!sum()) {
                return false;
            }
            law.whens[i] = law.length;
            if (kind() == WORD_WHEN) {
                next++;
                if (!condition(0)) {
                    return false;
                }
            }
            law.lines++;
            return takes(';');
        }

        /** B, of which open ( and not are open already. */
        private boolean condition(int open) {
            boolean isEither = false;
            if (!single(open)) {
                return false;
            }
            while (next < tape.tokens && (kind() == WORD_OR || kind() == WORD_AND)) {
                boolean isOr = kind() == WORD_OR;
                next++;
                if (isOr && isEither) {
                    law.emit(OP_OR, 0);
                }
                isEither = isEither || isOr;
                if (!single(open)) {
                    return false;
                }
                if (!isOr) {
                    law.emit(OP_AND, 0);
                }
            }
            if (isEither) {
                law.emit(OP_OR, 0);
            }
            return true;
        }

        /** C; open grows with each call of itself, and none goes beyond OPEN. */
        private boolean single(int open) {
            int sign = kind();
            if (sign == WORD_NOT || sign == '(') {
                if (open >= OPEN) {
                    return fail(3);
                }
                next++;
                if (sign == '(') {
                    return condition(open + 1) && takes(')');
                }
                if (!single(open + 1)) {
                    return false;
                }
                law.emit(OP_NOT, 0);
                return true;
            }
            if (!sum()) {
                return false;
            }
            int op = kind();
            if (op != '<' && op != '=' && op != '>') {
                return fail(1);
            }
            next++;
            if (!sum()) {
                return false;
            }
            law.emit(op == '<' ? OP_LESS : op == '=' ? OP_SAME : OP_MORE, 0);
            return true;
        }

        /** E: a + or - waits until the product behind it is whole. */
        private boolean sum() {
            int waits = NONE;
            if (!operand()) {
                return false;
            }
            int sign = kind();
            while (next < tape.tokens && (sign == '*' || sign == '/' || sign == '+' || sign == '-')) {
                next++;
                if (waits != NONE && (sign == '+' || sign == '-')) {
                    law.emit(waits, 0);
                }
                int part = sign == '/' ? number(1, MOST_NUMBER) : 0;
                if (part == NONE || part == 0 && !operand()) {
                    return false;
                }
                if (sign == '/') {
                    law.emit(OP_PART, part);
                } else if (sign == '*') {
                    law.emit(OP_TIMES, 0);
                } else {
                    waits = sign == '+' ? OP_PLUS : OP_MINUS;
                }
                sign = kind();
            }
            if (waits != NONE) {
                law.emit(waits, 0);
            }
            return true;
        }

        private boolean operand() {
            int word = kind();
            if (word == TOKEN_NUMBER) {
                law.emit(OP_NUMBER, tape.values[next]);
            } else if (isWithin(word, WORD_WEEK, WORD_WEEK + ASKS - 1)) {
                law.emit(OP_ASK, word - WORD_WEEK);
                boolean isCount = isWithin(law.lines, 0, TEXT_LINES - 1) && law.words[law.lines] == LAW_COUNT;
                law.countsByHanging = law.countsByHanging || isCount && word == WORD_WEEK + ASK_HANGING;
            } else {
                return fail(1);
            }
            next++;
            return true;
        }

        private boolean pathLine(int i) {
            if (!begins(WORD_EATER, i)) {
                return false;
            }
            int e = number(0, eaters - 1);
            if (e == NONE || !takes(WORD_BY)) {
                return false;
            }
            paths.clearPath(e);
            for (int n = 0; n <= STEPS && (n == 0 || kind() == TOKEN_NUMBER); n++) {
                int place = number(0, PLACES - 1);
                if (place == NONE) {
                    return false;
                }
                if (n == STEPS) {
                    next--;
                    return fail(3);
                }
                paths.addStep(e, place);
            }
            paths.lines++;
            return takes(';');
        }

        private boolean planLine(int i) {
            if (!begins(WORD_ON, i)) {
                return false;
            }
            plan.weeks[i] = number(0, MOST_PLAN_WEEK);
            if (plan.weeks[i] == NONE) {
                return false;
            }
            int what = kind();
            if (!isWithin(what, WORD_PLANT, WORD_CHEESE) || what == WORD_AT) {
                return fail(1);
            }
            next++;
            boolean isOfParty = what == WORD_PLANT || what == WORD_BOIL;
            int most = isOfParty ? parties - 1 : what == WORD_CHEESE ? eaters - 1 : PLACES - 1;
            plan.whats[i] = what;
            plan.whos[i] = number(0, most);
            if (plan.whos[i] == NONE || what == WORD_PLANT && !takes(WORD_AT)) {
                return false;
            }
            plan.others[i] = 0;
            if (isOfParty) {
                plan.others[i] = what == WORD_PLANT ? number(0, PLACES - 1) : number(1, MOST_BOILED);
            }
            plan.lines++;
            return plan.others[i] != NONE && takes(';');
        }

        private int kind() {
            return next >= 0 && next < tape.tokens ? tape.kinds[next] : TOKEN_END;
        }

        private boolean fail(int what) {
            wrong = what;
            wrongPlace = next >= 0 && next < tape.tokens ? tape.places[next] : tape.length;
            return false;
        }

        private boolean takes(int kind) {
            if (kind() != kind) {
                return fail(1);
            }
            next++;
            return true;
        }

        private boolean begins(int word, int line) {
            if (kind() == word && line >= TEXT_LINES) {
                return fail(3);
            }
            return takes(word);
        }

        /** A NUMBER within its bounds, or NONE and the FAULT. */
        private int number(int least, int most) {
            if (kind() != TOKEN_NUMBER) {
                fail(1);
                return NONE;
            }
            int v = tape.values[next];
            if (!isWithin(v, least, most)) {
                fail(2);
                return NONE;
            }
            next++;
            return v;
        }
    }
}
