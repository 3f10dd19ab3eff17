import java.math.BigInteger;
import java.util.ArrayList;
import java.util.Arrays;
import java.util.Collections;
import java.util.Comparator;
import java.util.HashMap;
import java.util.List;
import java.util.Map;
import java.util.function.Predicate;
import java.util.function.ToIntFunction;

/**
 * The document once more, written as plainly as can be with the whole library and by other ways than the
 * class goes: texts become functions, undo and the image are deep copies, one fruit is eaten at a time.
 */
final class Oracle {
    private static final int NONE = -1;

    static final class Party {
        int store;
        int votes;
        int seats;
    }

    static final class Tree {
        int party;
        int place;
        int age;
        int hanging;
    }

    static final class Eater {
        int hunger;
        int[] tastes = {5, 5, 5, 5, 5};
    }

    record Line(String word, ToIntFunction<Map<String, Integer>> e, Predicate<Map<String, Integer>> b) {
    }

    record Path(int eater, List<Integer> places) {
    }

    record Deed(int week, String what, int who, int n) {
    }

    static final class World {
        int state;
        int bad;
        int wasps;
        int chairs = 9;
        int every = 4;
        int week;
        List<Party> parties = new ArrayList<>();
        List<Tree> trees = new ArrayList<>();
        List<Eater> eaters = new ArrayList<>();
        boolean[] fenced = new boolean[10];
        List<int[]> book = new ArrayList<>();
        List<Line> law = List.of();
        List<Path> paths = List.of();
        List<Deed> plan = List.of();
        List<int[]> cores = new ArrayList<>();
        boolean thought;
        int[] gained = new int[5];
        int hungryTimes;
        int firstHungry = NONE;
        int firstWeek = NONE;

        World copy() {
            World w = new World();
            w.state = state;
            w.bad = bad;
            w.wasps = wasps;
            w.chairs = chairs;
            w.every = every;
            w.week = week;
            for (Party p : parties) {
                Party q = new Party();
                q.store = p.store;
                q.votes = p.votes;
                q.seats = p.seats;
                w.parties.add(q);
            }
            for (Tree t : trees) {
                w.grow(t.party, t.place, t.age).hanging = t.hanging;
            }
            for (Eater e : eaters) {
                Eater f = new Eater();
                f.hunger = e.hunger;
                f.tastes = e.tastes.clone();
                w.eaters.add(f);
            }
            w.fenced = fenced.clone();
            w.book = new ArrayList<>(book);
            w.law = law;
            w.paths = paths;
            w.plan = plan;
            w.cores = new ArrayList<>(cores);
            return w;
        }

        World imagined() {
            World w = copy();
            w.thought = true;
            w.bad = 0;
            w.wasps = 0;
            return w;
        }

        Tree grow(int party, int place, int age) {
            Tree t = new Tree();
            t.party = party;
            t.place = place;
            t.age = age;
            trees.add(t);
            return t;
        }

        int draw(int m) {
            state = state * 1664525 + 1013904223;
            return (int) (((state & 0xFFFFFFFFL) >> 8) % m);
        }

        void write(int what, int who, int many) {
            if (!thought && book.size() < 150) {
                book.add(new int[] {week, what, who, many});
            }
        }

        List<Integer> pathOf(int e) {
            List<Integer> found = List.of();
            for (Path p : paths) {
                if (p.eater == e) {
                    found = p.places;
                }
            }
            return found;
        }

        int passedBy(int e) {
            int set = 0;
            for (int place : pathOf(e)) {
                set |= 1 << place;
            }
            return set;
        }

        Map<String, Integer> asks() {
            Map<String, Integer> m = new HashMap<>();
            for (String k : "party place age hanging hunger taste jam seats".split(" ")) {
                m.put(k, 0);
            }
            m.put("week", week % 52);
            return m;
        }

        int told(String word, Map<String, Integer> m, int otherwise, int most) {
            int v = otherwise;
            for (Line line : law) {
                if (line.word.equals(word) && line.b.test(m)) {
                    v = line.e.applyAsInt(m);
                    break;
                }
            }
            return v < 0 ? 0 : v > most ? most : v;
        }

        int bear(Tree t) {
            Map<String, Integer> m = asks();
            m.put("party", t.party);
            m.put("place", t.place);
            m.put("age", t.age);
            m.put("hanging", t.hanging);
            m.put("seats", parties.get(t.party).seats);
            return told("bear", m, t.age / 5, 99);
        }

        int want(Eater e) {
            Map<String, Integer> m = asks();
            m.put("hunger", e.hunger);
            return told("want", m, e.hunger, 20);
        }

        int count(Eater e, int party, Tree t) {
            Map<String, Integer> m = asks();
            m.put("hunger", e.hunger);
            m.put("party", party);
            m.put("taste", e.tastes[party]);
            m.put("seats", parties.get(party).seats);
            if (t == null) {
                m.put("jam", 1);
            } else {
                m.put("place", t.place);
                m.put("age", t.age);
                m.put("hanging", t.hanging);
            }
            return told("count", m, 1, 9);
        }

        void vote(int party, int count) {
            Party p = parties.get(party);
            int before = p.votes;
            p.votes = Math.min(9999, p.votes + count);
            gained[party] += p.votes - before;
        }

        int boil(int party, int n) {
            int got = 0;
            for (Tree t : trees) {
                while (t.party == party && t.hanging > 0 && got < n) {
                    t.hanging--;
                    got++;
                }
            }
            Party p = parties.get(party);
            p.store = Math.min(999, p.store + got);
            write(3, party, got);
            return got;
        }

        void goByPlan(Deed d) {
            switch (d.what) {
                case "plant" -> {
                    if (trees.size() < 14) {
                        grow(d.who, d.n, 0);
                        write(0, trees.size() - 1, 0);
                    }
                }
                case "fence", "open" -> {
                    boolean is = d.what.equals("fence");
                    if (fenced[d.who] != is) {
                        fenced[d.who] = is;
                        write(is ? 1 : 2, d.who, 0);
                    }
                }
                case "boil" -> boil(d.who, d.n);
                default -> eaters.get(d.who).hunger = Math.min(20, eaters.get(d.who).hunger * 2);
            }
        }

        void week() {
            for (Deed d : plan) {
                if (d.week == week) {
                    goByPlan(d);
                }
            }
            for (Tree t : trees) {
                t.hanging = Math.min(99, t.hanging + bear(t));
            }
            for (int e = 0; e < eaters.size(); e++) {
                eat(e);
            }
            if (wasps > 0) {
                for (int t = 0; t < trees.size(); t++) {
                    Tree tree = trees.get(t);
                    if (tree.hanging >= 10 && draw(1000) < wasps) {
                        int gone = tree.hanging / 10;
                        tree.hanging -= gone;
                        write(6, t, gone);
                    }
                }
            }
            if ((week + 1) % every == 0) {
                seat();
                for (Party p : parties) {
                    p.votes = 0;
                }
                write(7, first(), first() == NONE ? 0 : parties.get(first()).seats);
            }
            week++;
            if (week % 52 == 0) {
                for (Tree t : trees) {
                    t.age = Math.min(99, t.age + 1);
                }
            }
        }

        void eat(int number) {
            Eater e = eaters.get(number);
            int would = want(e);
            for (int place : pathOf(number)) {
                if (fenced[place]) {
                    continue;
                }
                while (would > 0) {
                    Tree best = null;
                    for (Tree t : trees) {
                        boolean is = t.place == place && t.hanging > 0 && e.tastes[t.party] > 0;
                        if (is && (best == null || e.tastes[t.party] > e.tastes[best.party])) {
                            best = t;
                        }
                    }
                    if (best == null) {
                        break;
                    }
                    vote(best.party, count(e, best.party, best));
                    best.hanging--;
                    would--;
                    if (bad > 0 && draw(1000) < bad) {
                        e.tastes[best.party] = Math.max(0, e.tastes[best.party] - 2);
                        write(4, number, best.party);
                        return;
                    }
                }
            }
            while (would > 0) {
                int best = NONE;
                for (int p = 0; p < parties.size(); p++) {
                    boolean is = parties.get(p).store > 0 && e.tastes[p] > 0;
                    if (is && (best == NONE || e.tastes[p] > e.tastes[best])) {
                        best = p;
                    }
                }
                if (best == NONE) {
                    break;
                }
                vote(best, count(e, best, null));
                parties.get(best).store--;
                would--;
            }
            if (would > 0) {
                hungryTimes++;
                write(5, number, would);
                if (firstHungry == NONE) {
                    firstHungry = number;
                    firstWeek = week;
                }
            }
        }

        int first() {
            int best = NONE;
            for (int p = 0; p < parties.size(); p++) {
                if (best == NONE || parties.get(p).seats > parties.get(best).seats) {
                    best = p;
                }
            }
            return best;
        }

        void seat() {
            int all = parties.stream().mapToInt(p -> p.votes).sum();
            if (all == 0) {
                return;
            }
            List<Integer> order = new ArrayList<>();
            int[] fresh = new int[parties.size()];
            int given = 0;
            for (int p = 0; p < fresh.length; p++) {
                order.add(p);
                fresh[p] = parties.get(p).votes * chairs / all;
                given += fresh[p];
            }
            order.sort(Comparator.<Integer>comparingInt(p -> -(parties.get(p).votes * chairs % all))
                .thenComparingInt(p -> -fresh[p]).thenComparingInt(p -> p));
            for (int i = 0; i < chairs - given; i++) {
                fresh[order.get(i)]++;
            }
            for (int p = 0; p < fresh.length; p++) {
                parties.get(p).seats = fresh[p];
            }
        }
    }

    private World w = new World();
    private World image;
    private final List<World> past = new ArrayList<>();
    private String tape = "";
    private int fault;
    private int faultPlace = NONE;

    private boolean party_(int p) {
        return 0 <= p && p < w.parties.size();
    }

    private boolean eater_(int e) {
        return 0 <= e && e < w.eaters.size();
    }

    private boolean tree_(int t) {
        return 0 <= t && t < w.trees.size();
    }

    private static boolean in(int v, int a, int b) {
        return a <= v && v <= b;
    }

    private void keep() {
        past.add(w.copy());
        if (past.size() > 6) {
            past.remove(0);
        }
    }

    public int state(int v) {
        int was = w.state;
        w.state = v;
        past.clear();
        return was;
    }

    public int party(int store) {
        if (!in(store, 0, 999) || w.parties.size() == 5) {
            return NONE;
        }
        Party p = new Party();
        p.store = store;
        w.parties.add(p);
        past.clear();
        return w.parties.size() - 1;
    }

    public int eater(int hunger) {
        if (!in(hunger, 0, 20) || w.eaters.size() == 10) {
            return NONE;
        }
        Eater e = new Eater();
        e.hunger = hunger;
        w.eaters.add(e);
        past.clear();
        return w.eaters.size() - 1;
    }

    public boolean taste(int eater, int party, int v) {
        if (!eater_(eater) || !party_(party) || !in(v, 0, 9)) {
            return false;
        }
        w.eaters.get(eater).tastes[party] = v;
        past.clear();
        return true;
    }

    public boolean set(int what, int who, int v) {
        int[] least = {0, 0, 1, 1, 0, 0, 0, 0};
        int[] most = {1000, 1000, 99, 52, 99, 20, 999, 9999};
        if (!in(what, 0, 7) || !in(v, least[what], most[what])) {
            return false;
        }
        if (what == 4 && !tree_(who) || what == 5 && !eater_(who) || what > 5 && !party_(who)) {
            return false;
        }
        switch (what) {
            case 0 -> w.bad = v;
            case 1 -> w.wasps = v;
            case 2 -> w.chairs = v;
            case 3 -> w.every = v;
            case 4 -> w.trees.get(who).hanging = v;
            case 5 -> w.eaters.get(who).hunger = v;
            case 6 -> w.parties.get(who).store = v;
            default -> w.parties.get(who).votes = v;
        }
        past.clear();
        return true;
    }

    public int plant(int party, int place, int age) {
        if (!party_(party) || !in(place, 0, 9) || !in(age, 0, 99) || w.trees.size() == 14) {
            return NONE;
        }
        keep();
        w.grow(party, place, age);
        w.write(0, w.trees.size() - 1, 0);
        return w.trees.size() - 1;
    }

    public boolean fence(int place, boolean is) {
        if (!in(place, 0, 9) || w.fenced[place] == is) {
            return false;
        }
        keep();
        w.fenced[place] = is;
        w.write(is ? 1 : 2, place, 0);
        return true;
    }

    public int boil(int party, int n) {
        if (!party_(party) || !in(n, 1, 99)) {
            return NONE;
        }
        keep();
        return w.boil(party, n);
    }

    public int weeks(int n) {
        if (!in(n, 1, 60) || w.week + n > 9999) {
            return NONE;
        }
        w.hungryTimes = 0;
        int sum = 0;
        for (int i = 0; i < n; i++) {
            keep();
            w.hungryTimes = 0;
            w.week();
            sum += w.hungryTimes;
        }
        return sum;
    }

    public int feed(int a, int b, int c, int d, int e) {
        if (tape.length() > 380) {
            return NONE;
        }
        StringBuilder s = new StringBuilder(tape);
        for (int v : new int[] {a, b, c, d, e}) {
            s.append((char) (v >>> 24)).append((char) (v >>> 16 & 255)).append((char) (v >>> 8 & 255)).append((char) (v & 255));
        }
        tape = s.toString();
        return tape.length();
    }

    public boolean end(int n) {
        if (!in(n, 0, tape.length())) {
            return false;
        }
        tape = tape.substring(0, n);
        return true;
    }

    public int text(int k) {
        fault = 0;
        faultPlace = NONE;
        String told = tape;
        tape = "";
        if (!in(k, 0, 2)) {
            return NONE;
        }
        Parse parse = new Parse(told, k, w.parties.size(), w.eaters.size());
        try {
            if (k == 0) {
                w.law = parse.law();
                return w.law.size();
            }
            int lines;
            if (k == 1) {
                w.paths = parse.paths();
                lines = w.paths.size();
            } else {
                w.plan = parse.plan();
                lines = w.plan.size();
            }
            past.clear();
            return lines;
        } catch (Fault f) {
            fault = f.what;
            faultPlace = f.place;
            return NONE;
        }
    }

    public int fault(int what) {
        return what == 0 ? fault : what == 1 ? faultPlace : NONE;
    }

    public int of(int party, int what) {
        if (!party_(party)) {
            return NONE;
        }
        Party p = w.parties.get(party);
        int hanging = w.trees.stream().filter(t -> t.party == party).mapToInt(t -> t.hanging).sum();
        int[] all = {p.store, p.votes, p.seats, hanging};
        return in(what, 0, 3) ? all[what] : NONE;
    }

    public int tree(int t, int what) {
        if (!tree_(t) || !in(what, 0, 4)) {
            return NONE;
        }
        Tree tree = w.trees.get(t);
        return new int[] {tree.party, tree.place, tree.age, tree.hanging, w.bear(tree)}[what];
    }

    public int who(int eater, int what) {
        if (!eater_(eater)) {
            return NONE;
        }
        Eater e = w.eaters.get(eater);
        List<Integer> path = w.pathOf(eater);
        Map<Integer, Integer> all = new HashMap<>();
        all.put(0, e.hunger);
        all.put(1, w.want(e));
        all.put(2, path.size());
        for (int i = 0; i < path.size(); i++) {
            all.put(10 + i, path.get(i));
        }
        for (int p = 0; p < w.parties.size(); p++) {
            all.put(20 + p, e.tastes[p]);
        }
        return all.getOrDefault(what, NONE);
    }

    public int at(int place) {
        return !in(place, 0, 9) ? NONE : w.fenced[place] ? 1 : 0;
    }

    public int book(int i, int what) {
        return in(i, 0, w.book.size() - 1) && in(what, 0, 3) ? w.book.get(i)[what] : NONE;
    }

    private static void go(World v, int n) {
        for (int i = 0; i < n; i++) {
            v.week();
        }
    }

    public int goes(int n, int party, int what) {
        if (!in(n, 1, 60) || !in(what, 0, 3) || what < 2 && !party_(party)) {
            return NONE - 1;
        }
        World v = w.imagined();
        go(v, n);
        return what == 0 ? v.parties.get(party).seats : what == 1 ? v.parties.get(party).votes
            : what == 2 ? v.firstHungry : v.firstWeek;
    }

    public int falls(int party) {
        if (!party_(party)) {
            return NONE;
        }
        World v = w.imagined();
        v.seat();
        return v.parties.get(party).seats;
    }

    public int brings(int party, int n, int what) {
        if (!party_(party) || !in(n, 1, 20) || !in(what, 0, 1) || w.trees.size() == 14) {
            return NONE;
        }
        int[] gains = new int[10];
        for (int place = 0; place < 10; place++) {
            World v = w.imagined();
            v.grow(party, place, 10);
            go(v, n);
            gains[place] = v.gained[party];
        }
        int most = Arrays.stream(gains).max().getAsInt();
        int place = 0;
        while (gains[place] != most) {
            place++;
        }
        return what == 0 ? place : most;
    }

    public int swings(int tree, int n) {
        if (!tree_(tree) || !in(n, 1, 20)) {
            return NONE;
        }
        World v = w.imagined();
        go(v, n);
        for (int d = 1; d <= w.trees.get(tree).hanging; d++) {
            World u = w.imagined();
            u.trees.get(tree).hanging -= d;
            go(u, n);
            if (u.first() != v.first()) {
                return d;
            }
        }
        return NONE;
    }

    /** The sets of n, those with fewest first, of like ones the least number first. */
    private static List<Integer> sets(int n) {
        List<Integer> all = new ArrayList<>();
        for (int s = 0; s < 1 << n; s++) {
            all.add(s);
        }
        all.sort(Comparator.<Integer>comparingInt(Integer::bitCount).thenComparingInt(s -> s));
        return all;
    }

    public int feeds(int what) {
        for (int s : sets(10)) {
            boolean all = true;
            for (int e = 0; e < w.eaters.size(); e++) {
                all &= w.pathOf(e).isEmpty() || (w.passedBy(e) & s) != 0;
            }
            if (all) {
                return what == 0 ? Integer.bitCount(s) : what == 1 ? s : NONE;
            }
        }
        throw new IllegalStateException();
    }

    public int core(int party, int place) {
        if (party == NONE) {
            w.cores.clear();
            return 0;
        }
        if (!party_(party) || !in(place, 0, 9) || w.cores.size() == 8) {
            return NONE;
        }
        w.cores.add(new int[] {party, place});
        return w.cores.size();
    }

    public int whose(int what) {
        List<Integer> whose = new ArrayList<>();
        int set = 0;
        for (int e = 0; e < w.eaters.size(); e++) {
            int eater = e;
            if (w.cores.stream().allMatch(c -> w.pathOf(eater).contains(c[1]) && w.eaters.get(eater).tastes[c[0]] > 0)) {
                whose.add(e);
                set |= 1 << e;
            }
        }
        if (what == 0) {
            return set;
        }
        if (what != 1 || whose.size() < 2 || w.parties.isEmpty()) {
            return NONE;
        }
        List<Integer> worst = new ArrayList<>();
        for (int p = 0; p < w.parties.size(); p++) {
            int party = p;
            int fond = (int) whose.stream().filter(e -> w.eaters.get(e).tastes[party] >= 5).count();
            worst.add(Math.max(fond, whose.size() - fond));
        }
        return worst.indexOf(Collections.min(worst));
    }

    public int left(int k) {
        if (!in(k, 0, 99)) {
            return NONE;
        }
        BigInteger[] ways = new BigInteger[201];
        Arrays.fill(ways, BigInteger.ZERO);
        ways[0] = BigInteger.ONE;
        for (Eater e : w.eaters) {
            BigInteger[] more = new BigInteger[201];
            Arrays.fill(more, BigInteger.ZERO);
            for (int own = 0; own <= w.want(e); own++) {
                for (int i = 0; i + own <= 200; i++) {
                    more[i + own] = more[i + own].add(ways[i]);
                }
            }
            ways = more;
        }
        return ways[k].mod(BigInteger.valueOf(1000000007)).intValue();
    }

    private int seats(int set) {
        int sum = 0;
        for (int p = 0; p < w.parties.size(); p++) {
            sum += (set >> p & 1) * w.parties.get(p).seats;
        }
        return sum;
    }

    public int rules(int what) {
        int all = seats(31);
        if (all == 0 || !in(what, 0, 1)) {
            return NONE;
        }
        for (int s : sets(w.parties.size())) {
            if (seats(s) > all / 2.0) {
                return what == 0 ? Integer.bitCount(s) : s;
            }
        }
        throw new IllegalStateException();
    }

    public int weighs(int party) {
        if (!party_(party)) {
            return NONE;
        }
        double half = seats(31) / 2.0;
        return (int) sets(w.parties.size()).stream()
            .filter(s -> (s >> party & 1) == 0 && seats(s) <= half && seats(s | 1 << party) > half).count();
    }

    public int lasts(int party) {
        if (!party_(party)) {
            return NONE;
        }
        int taken = w.eaters.stream().filter(e -> e.tastes[party] > 0).mapToInt(w::want).sum();
        if (taken == 0) {
            return NONE;
        }
        int weeks = 0;
        for (int store = w.parties.get(party).store; store > 0; store -= taken) {
            weeks++;
        }
        return weeks;
    }

    public int meets(int a, int b) {
        return eater_(a) && eater_(b) ? w.passedBy(a) & w.passedBy(b) : NONE;
    }

    public int game(int what) {
        if (!in(what, 0, 1)) {
            return NONE;
        }
        int[] worth = new int[100];
        for (int h = 1; h < 100; h++) {
            List<Integer> reached = new ArrayList<>();
            for (int n = 1; n <= 3 && n <= h; n++) {
                reached.add(worth[h - n]);
            }
            while (reached.contains(worth[h])) {
                worth[h]++;
            }
        }
        int sum = 0;
        for (Tree t : w.trees) {
            sum ^= worth[t.hanging];
        }
        for (int t = 0; t < w.trees.size(); t++) {
            int h = w.trees.get(t).hanging;
            for (int n = 1; n <= 3 && n <= h; n++) {
                if ((sum ^ worth[h] ^ worth[h - n]) == 0) {
                    return what == 0 ? t : n;
                }
            }
        }
        return NONE;
    }

    public boolean undo() {
        if (past.isEmpty()) {
            return false;
        }
        World was = past.remove(past.size() - 1);
        was.law = w.law;
        was.cores = w.cores;
        w = was;
        return true;
    }

    public boolean image(boolean taken) {
        if (taken) {
            image = w.copy();
            return true;
        }
        if (image == null) {
            return false;
        }
        w = image.copy();
        past.clear();
        return true;
    }

    public int look(int what) {
        int fenced = 0;
        for (int i = 0; i < 10; i++) {
            fenced |= w.fenced[i] ? 1 << i : 0;
        }
        int[] all = {w.parties.size(), w.trees.size(), w.eaters.size(), w.week, w.bad, w.wasps, w.chairs, w.every,
            w.book.size(), w.state, w.law.size(), w.paths.size(), w.plan.size(), w.cores.size(), past.size(), fenced};
        return in(what, 0, all.length - 1) ? all[what] : NONE;
    }

    static final class Fault extends Exception {
        private static final long serialVersionUID = 1L;
        final int what;
        final int place;

        Fault(int what, int place) {
            this.what = what;
            this.place = place;
        }
    }

    /** Reads straight from the text, as the grammar stands, a method for each of its letters. */
    static final class Parse {
        private static final String[] WORDS = {
            "bear want count when or and not week party place age hanging hunger taste jam seats",
            "eater by", "on plant at fence open boil cheese"};
        private final String s;
        private final List<String> words;
        private final int parties;
        private final int eaters;
        private int at;
        private int open;

        Parse(String s, int k, int parties, int eaters) {
            this.s = s;
            this.words = Arrays.asList(WORDS[k].split(" "));
            this.parties = parties;
            this.eaters = eaters;
        }

        /** The token that is next: a word, a number, a sign, "" at the end, "?" for none; at stands on it then. */
        private String peek() {
            while (at < s.length() && (s.charAt(at) == ' ' || s.charAt(at) == '\n')) {
                at++;
            }
            String rest = s.substring(at);
            if (rest.isEmpty()) {
                return "";
            }
            String letters = rest.replaceFirst("(?s)[^a-zA-Z].*", "");
            if (!letters.isEmpty()) {
                return words.contains(letters) ? letters : "?";
            }
            String digits = rest.replaceFirst("(?s)[^0-9].*", "");
            if (!digits.isEmpty()) {
                return digits.length() <= 4 ? digits : "?";
            }
            return ";+-*/()<=>".indexOf(rest.charAt(0)) >= 0 ? rest.substring(0, 1) : "?";
        }

        private Fault fault(int what) {
            peek();
            return new Fault(what, at);
        }

        private boolean isNumber() {
            return peek().matches("[0-9]+");
        }

        private String take(String... which) throws Fault {
            String t = peek();
            if (!Arrays.asList(which).contains(t)) {
                throw fault(1);
            }
            at += t.length();
            return t;
        }

        private int number(int a, int b) throws Fault {
            if (!isNumber()) {
                throw fault(1);
            }
            String t = peek();
            int v = Integer.parseInt(t);
            if (v < a || v > b) {
                throw fault(2);
            }
            at += t.length();
            return v;
        }

        private void begin(int lines, String... which) throws Fault {
            if (!Arrays.asList(which).contains(peek())) {
                throw fault(1);
            }
            if (lines == 16) {
                throw fault(3);
            }
        }

        List<Line> law() throws Fault {
            List<Line> lines = new ArrayList<>();
            while (!peek().isEmpty()) {
                begin(lines.size(), "bear", "want", "count");
                String word = take("bear", "want", "count");
                ToIntFunction<Map<String, Integer>> e = e();
                Predicate<Map<String, Integer>> b = m -> true;
                if (peek().equals("when")) {
                    take("when");
                    b = b();
                }
                take(";");
                lines.add(new Line(word, e, b));
            }
            return lines;
        }

        private Predicate<Map<String, Integer>> b() throws Fault {
            Predicate<Map<String, Integer>> all = a();
            while (peek().equals("or")) {
                take("or");
                all = all.or(a());
            }
            return all;
        }

        private Predicate<Map<String, Integer>> a() throws Fault {
            Predicate<Map<String, Integer>> all = c();
            while (peek().equals("and")) {
                take("and");
                all = all.and(c());
            }
            return all;
        }

        private Predicate<Map<String, Integer>> c() throws Fault {
            if (peek().equals("not") || peek().equals("(")) {
                if (open == 8) {
                    throw fault(3);
                }
                open++;
                Predicate<Map<String, Integer>> inner;
                if (take("not", "(").equals("not")) {
                    inner = c().negate();
                } else {
                    inner = b();
                    take(")");
                }
                open--;
                return inner;
            }
            ToIntFunction<Map<String, Integer>> left = e();
            String sign = take("<", "=", ">");
            ToIntFunction<Map<String, Integer>> right = e();
            return m -> {
                int d = Integer.compare(left.applyAsInt(m), right.applyAsInt(m));
                return sign.equals("<") ? d < 0 : sign.equals("=") ? d == 0 : d > 0;
            };
        }

        private ToIntFunction<Map<String, Integer>> e() throws Fault {
            ToIntFunction<Map<String, Integer>> sum = t();
            while (peek().equals("+") || peek().equals("-")) {
                int sign = take("+", "-").equals("+") ? 1 : -1;
                ToIntFunction<Map<String, Integer>> left = sum;
                ToIntFunction<Map<String, Integer>> right = t();
                sum = m -> left.applyAsInt(m) + sign * right.applyAsInt(m);
            }
            return sum;
        }

        private ToIntFunction<Map<String, Integer>> t() throws Fault {
            ToIntFunction<Map<String, Integer>> product = u();
            while (peek().equals("*") || peek().equals("/")) {
                ToIntFunction<Map<String, Integer>> left = product;
                if (take("*", "/").equals("*")) {
                    ToIntFunction<Map<String, Integer>> right = u();
                    product = m -> left.applyAsInt(m) * right.applyAsInt(m);
                } else {
                    int by = number(1, 9999);
                    product = m -> left.applyAsInt(m) / by;
                }
            }
            return product;
        }

        private ToIntFunction<Map<String, Integer>> u() throws Fault {
            if (isNumber()) {
                int v = number(0, 9999);
                return m -> v;
            }
            String name = take("week", "party", "place", "age", "hanging", "hunger", "taste", "jam", "seats");
            return m -> m.get(name);
        }

        List<Path> paths() throws Fault {
            List<Path> lines = new ArrayList<>();
            while (!peek().isEmpty()) {
                begin(lines.size(), "eater");
                take("eater");
                int e = number(0, eaters - 1);
                take("by");
                List<Integer> places = new ArrayList<>();
                places.add(number(0, 9));
                while (isNumber()) {
                    if (Integer.parseInt(peek()) <= 9 && places.size() == 8) {
                        throw fault(3);
                    }
                    places.add(number(0, 9));
                }
                take(";");
                lines.add(new Path(e, places));
            }
            return lines;
        }

        List<Deed> plan() throws Fault {
            List<Deed> lines = new ArrayList<>();
            while (!peek().isEmpty()) {
                begin(lines.size(), "on");
                take("on");
                int week = number(0, 999);
                String what = take("plant", "fence", "open", "boil", "cheese");
                int who;
                int n = 0;
                switch (what) {
                    case "plant":
                        who = number(0, parties - 1);
                        take("at");
                        n = number(0, 9);
                        break;
                    case "boil":
                        who = number(0, parties - 1);
                        n = number(1, 99);
                        break;
                    case "cheese":
                        who = number(0, eaters - 1);
                        break;
                    default:
                        who = number(0, 9);
                        break;
                }
                take(";");
                lines.add(new Deed(week, what, who, n));
            }
            return lines;
        }
    }
}
