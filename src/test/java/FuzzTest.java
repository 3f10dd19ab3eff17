import java.lang.reflect.InvocationTargetException;
import java.lang.reflect.Method;
import java.nio.charset.StandardCharsets;
import java.util.ArrayList;
import java.util.Arrays;
import java.util.List;
import java.util.Random;

/** Runs of calls by draws from fixed seeds: the class and the oracle must answer alike. Arguments: first seed, runs. */
public final class FuzzTest {
    private static final String[] NUMBERS = {"week", "party", "place", "age", "hanging", "hunger", "taste", "jam", "seats"};
    private static final String[] LAW = ("bear want count when or and not week party place age hanging hunger taste jam seats"
        + " ; + - * / ( ) < = > 0 1 7 12345 x").split(" ");
    private static final String[] PATHS = "eater by 0 1 9 10 ; x".split(" ");
    private static final String[] PLAN = "on plant at fence open boil cheese 0 1 9 99 1000 ; x".split(" ");

    private final Random r;
    private final BallotFruit x = new BallotFruit();
    private final Oracle o = new Oracle();
    private final List<String> calls = new ArrayList<>();
    private int left = 512;

    private FuzzTest(long seed) {
        r = new Random(seed);
    }

    public static void main(String[] args) throws Exception {
        long first = args.length > 0 ? Long.parseLong(args[0]) : 1;
        long runs = args.length > 1 ? Long.parseLong(args[1]) : 150;
        for (long seed = first; seed < first + runs; seed++) {
            FuzzTest f = new FuzzTest(seed);
            if (!f.go()) {
                System.out.println("seed " + seed + ":");
                f.calls.forEach(System.out::println);
                System.exit(1);
            }
        }
        System.out.println(runs + " runs alike");
    }

    private boolean go() throws Exception {
        boolean alike = settle();
        while (alike && left > 90) {
            alike = r.nextInt(12) == 0 ? tellSome() : one();
        }
        return alike && all();
    }

    /** A commune that is not empty, for most runs. */
    private boolean settle() throws Exception {
        boolean alike = r.nextInt(25) > 0 || late();
        int parties = r.nextInt(6);
        int eaters = r.nextInt(11);
        for (int i = 0; i < parties; i++) {
            alike &= call("party", r.nextInt(3) == 0 ? r.nextInt(1000) : r.nextInt(20));
        }
        for (int i = 0; i < eaters; i++) {
            alike &= call("eater", r.nextInt(21));
        }
        for (int i = r.nextInt(12); i > 0 && parties > 0; i--) {
            alike &= call("plant", r.nextInt(parties), r.nextInt(4), r.nextInt(100));
        }
        for (int i = r.nextInt(20); i > 0 && parties > 0 && eaters > 0; i--) {
            alike &= call("taste", r.nextInt(eaters), r.nextInt(parties), r.nextInt(10));
        }
        for (int i = r.nextInt(5); i > 0 && parties > 0; i--) {
            int votes = r.nextInt(40);
            alike &= call("set", 7, r.nextInt(parties), r.nextInt(3) == 0 ? 9999 - votes : votes);
        }
        return alike && tellSome() && tellSome() && tellSome();
    }

    /** Near the last WEEK, near a plan's last one, or near a year's end. */
    private boolean late() throws Exception {
        boolean alike = true;
        int[] ends = {9999, 1000, 104};
        for (int n = ends[r.nextInt(3)] - r.nextInt(30); n > 0; n -= 60) {
            alike &= call("weeks", Math.min(60, n));
        }
        return alike;
    }

    private boolean all() throws Exception {
        boolean alike = true;
        for (int what = 0; what < 16; what++) {
            alike &= call("look", what);
        }
        for (int i = 0; i < 40; i++) {
            alike &= call("book", r.nextInt(150), r.nextInt(4));
        }
        return alike;
    }

    private int near(int most) {
        if (r.nextInt(60) == 0) {
            return new int[] {Integer.MIN_VALUE, Integer.MAX_VALUE, -2, r.nextInt()}[r.nextInt(4)];
        }
        int k = r.nextInt(14);
        return k == 0 ? -1 : k == 1 ? most + 1 : k == 2 ? most : k == 3 ? 0 : r.nextInt(most + 1);
    }

    private boolean one() throws Exception {
        int p = Math.max(0, o.look(0) - 1);
        int e = Math.max(0, o.look(2) - 1);
        int t = Math.max(0, o.look(1) - 1);
        switch (r.nextInt(44)) {
            case 0: return call("state", r.nextInt());
            case 1: return r.nextInt(4) > 0 || call("party", near(999));
            case 2: return r.nextInt(4) > 0 || call("eater", near(20));
            case 3: return call("taste", near(e), near(p), near(9));
            case 4: return setOne(t, e, p);
            case 5: return call("plant", near(p), near(9), near(99));
            case 6: case 7: return call("fence", near(9), r.nextBoolean());
            case 8: case 9: return call("boil", near(p), r.nextInt(3) == 0 ? near(99) : near(9));
            case 10: case 11: case 12: return call("weeks", r.nextInt(6) == 0 ? near(60) : near(5));
            case 13: return call("feed", r.nextInt(), r.nextInt(), r.nextInt(), r.nextInt(), r.nextInt());
            case 14: return call("end", near(40));
            case 15: return call("text", near(2)) && call("fault", 0) && call("fault", 1);
            case 16: return call("fault", near(1));
            case 17: return call("of", near(p), near(3));
            case 18: return call("tree", near(t), near(4));
            case 19: return call("who", near(e), r.nextBoolean() ? near(2) : near(25));
            case 20: return call("at", near(9));
            case 21: return call("book", near(Math.max(0, o.look(8) - 1)), near(3));
            case 22: case 23: return call("goes", near(60), near(p), near(3));
            case 24: return call("falls", near(p));
            case 25: case 26: return call("brings", near(p), near(20), near(1));
            case 27: case 28: case 29: return call("swings", near(t), near(20));
            case 30: return call("feeds", near(1));
            case 31: return call("core", near(p), near(9));
            case 32: return call("whose", near(1));
            case 33: return call("left", near(99));
            case 34: return call("rules", near(1));
            case 35: return call("weighs", near(p));
            case 36: return call("lasts", near(p));
            case 37: return call("meets", near(e), near(e));
            case 38: return call("game", near(1));
            case 39: case 40: return call("undo");
            case 41: return call("image", r.nextBoolean());
            default: return call("look", near(15));
        }
    }

    private boolean setOne(int t, int e, int p) throws Exception {
        int what = near(7);
        int[] most = {1000, 1000, 99, 52, 99, 20, 999, 9999};
        int v = what >= 0 && what < 8 ? near(most[what]) : 0;
        if (what == 3 && r.nextBoolean()) {
            v = near(6);
        }
        if ((what == 0 || what == 1) && r.nextBoolean()) {
            v = 0;
        }
        return call("set", what, near(what == 4 ? t : what == 5 ? e : p), v);
    }

    private boolean tellSome() throws Exception {
        int k = r.nextInt(3);
        String s = k == 0 ? law() : k == 1 ? paths() : plan();
        if (r.nextInt(4) == 0) {
            s = spoilt(s, k);
        }
        byte[] b = s.getBytes(StandardCharsets.ISO_8859_1);
        int n = Math.min(400, b.length);
        boolean alike = call("end", 0);
        for (int i = 0; i < n; i += 20) {
            alike &= call("feed", Check.four(b, i), Check.four(b, i + 4), Check.four(b, i + 8), Check.four(b, i + 12),
                Check.four(b, i + 16));
        }
        alike &= call("end", n) & call("text", k) & call("fault", 0) & call("fault", 1);
        if (!alike) {
            calls.add("text was: " + s);
        }
        return alike;
    }

    private String blank() {
        return r.nextInt(3) == 0 ? "" : r.nextInt(6) == 0 ? "\n" : " ";
    }

    private String law() {
        StringBuilder s = new StringBuilder();
        int lines = r.nextInt(20) == 0 ? 17 : r.nextInt(6);
        for (int i = 0; i < lines; i++) {
            s.append(new String[] {"bear", "want", "count"}[r.nextInt(3)]).append(' ').append(e(lines < 8 ? 4 : 1));
            if (r.nextInt(3) > 0 && lines < 8) {
                s.append(" when ").append(b(0));
            }
            s.append(blank()).append(';').append(blank());
        }
        return s.toString();
    }

    private String e(int most) {
        StringBuilder s = new StringBuilder(u());
        for (int i = r.nextInt(most); i > 0; i--) {
            int k = r.nextInt(4);
            s.append(blank()).append("+-*/".charAt(k)).append(blank()).append(k == 3 ? "" + (1 + r.nextInt(9)) : u());
        }
        return s.toString();
    }

    private String u() {
        return r.nextInt(3) == 0 ? "" + r.nextInt(r.nextInt(5) == 0 ? 10000 : 12) : NUMBERS[r.nextInt(9)];
    }

    private String b(int depth) {
        StringBuilder s = new StringBuilder(c(depth));
        for (int i = r.nextInt(3); i > 0; i--) {
            s.append(r.nextBoolean() ? " or " : " and ").append(c(depth + 1));
        }
        return s.toString();
    }

    private String c(int depth) {
        int k = depth > 10 ? 9 : r.nextInt(8);
        if (k == 0) {
            return "not " + c(depth + 1);
        }
        return k == 1 ? "(" + b(depth + 1) + ")" : e(2) + blank() + "<=>".charAt(r.nextInt(3)) + blank() + e(2);
    }

    private String paths() {
        StringBuilder s = new StringBuilder();
        for (int i = r.nextInt(25) == 0 ? 17 : r.nextInt(12); i > 0; i--) {
            s.append("eater ").append(r.nextInt(Math.max(1, o.look(2)))).append(" by");
            for (int n = r.nextInt(30) == 0 ? 9 : 1 + r.nextInt(4); n > 0; n--) {
                s.append(' ').append(r.nextInt(r.nextBoolean() ? 4 : 10));
            }
            s.append(blank()).append(';').append(blank());
        }
        return s.toString();
    }

    private String plan() {
        StringBuilder s = new StringBuilder();
        int parties = Math.max(1, o.look(0));
        for (int i = r.nextInt(25) == 0 ? 17 : r.nextInt(10); i > 0; i--) {
            s.append("on ").append(Math.min(999, o.look(3) + r.nextInt(12))).append(' ');
            switch (r.nextInt(5)) {
                case 0: s.append("plant ").append(r.nextInt(parties)).append(" at ").append(r.nextInt(10)); break;
                case 1: s.append("fence ").append(r.nextInt(5)); break;
                case 2: s.append("open ").append(r.nextInt(5)); break;
                case 3: s.append("boil ").append(r.nextInt(parties)).append(' ').append(1 + r.nextInt(20)); break;
                default: s.append("cheese ").append(r.nextInt(Math.max(1, o.look(2)))); break;
            }
            s.append(blank()).append(';').append(blank());
        }
        return s.toString();
    }

    /** One token or sign more, less or another. */
    private String spoilt(String s, int k) {
        String[] words = k == 0 ? LAW : k == 1 ? PATHS : PLAN;
        int i = r.nextInt(s.length() + 1);
        int j = Math.min(s.length(), i + r.nextInt(5));
        switch (r.nextInt(4)) {
            case 0: return s.substring(0, i) + s.substring(j);
            case 1: return s.substring(0, i) + (char) r.nextInt(256) + s.substring(j);
            case 2: return s.substring(0, i);
            default: return s.substring(0, i) + " " + words[r.nextInt(words.length)] + " " + s.substring(j);
        }
    }

    private boolean call(String name, Object... args) throws Exception {
        left--;
        Object got = answer(x, name, args);
        Object due = answer(o, name, args);
        calls.add(name + Arrays.toString(args) + " answered " + got + (got.equals(due) ? "" : ", due is " + due));
        return got.equals(due);
    }

    private static Object answer(Object of, String name, Object[] args) throws Exception {
        for (Method m : of.getClass().getDeclaredMethods()) {
            boolean isFace = java.lang.reflect.Modifier.isPublic(m.getModifiers());
            if (isFace && m.getName().equals(name) && m.getParameterCount() == args.length) {
                m.setAccessible(true);
                try {
                    return m.invoke(of, args);
                } catch (InvocationTargetException e) {
                    return "thrown " + e.getCause();
                }
            }
        }
        throw new IllegalStateException(name);
    }
}
