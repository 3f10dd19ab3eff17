import java.lang.reflect.Method;
import java.lang.reflect.Modifier;
import java.util.ArrayList;
import java.util.Arrays;
import java.util.Comparator;
import java.util.List;
import java.util.function.Consumer;

/**
 * All calls with all kinds of arguments, in a commune that is empty, one that has some, and one that is full: none
 * throws (LANGUAGE.md, rule 7), and behind them all that has bounds is within them.
 */
public final class WildTest {
    private static final int[] MANY = {Integer.MIN_VALUE, -1000, -2, -1, 0, 1, 2, 3, 4, 5, 7, 8, 9, 10, 13, 14, 15, 16, 17, 18, 19,
        20, 21, 24, 25, 52, 53, 60, 61, 99, 100, 150, 400, 999, 1000, 1001, 9999, 10000, Integer.MAX_VALUE};
    private static final int[] FEW = {Integer.MIN_VALUE, -1, 0, 1, 2, 4, 5, 9, 10, 13, 14, 20, 60, 99, 1000, Integer.MAX_VALUE};
    private static final int CALLS = 180;

    private static Consumer<BallotFruit> way;
    private static BallotFruit x;
    private static int calls;

    public static void main(String[] args) {
        Method[] face = BallotFruit.class.getDeclaredMethods();
        List<Method> methods = new ArrayList<>();
        for (Method m : face) {
            if (Modifier.isPublic(m.getModifiers())) {
                methods.add(m);
            }
        }
        methods.sort(Comparator.comparing(Method::getName));
        Check.due("methods", methods.size(), 34);
        for (Consumer<BallotFruit> w : List.<Consumer<BallotFruit>>of(Twin::empty, Twin::some, Twin::full)) {
            way = w;
            renew();
            for (Method m : methods) {
                all(m, new Object[m.getParameterCount()], 0);
            }
            bounds();
        }
        Check.finish();
    }

    private static void renew() {
        x = new BallotFruit();
        calls = 0;
        way.accept(x);
    }

    private static void all(Method m, Object[] args, int from) {
        if (from == args.length) {
            call(m, args);
            return;
        }
        if (m.getParameterTypes()[from] == boolean.class) {
            args[from] = true;
            all(m, args, from + 1);
            args[from] = false;
            all(m, args, from + 1);
            return;
        }
        int[] values = args.length > 2 ? FEW : MANY;
        // of five numbers the tape is soon full: one of each is enough
        int step = args.length == 5 ? 5 : 1;
        for (int i = 0; i < values.length; i += step) {
            args[from] = values[i];
            all(m, args, from + 1);
        }
    }

    private static void call(Method m, Object[] args) {
        if (calls == CALLS) {
            bounds();
            renew();
        }
        calls++;
        try {
            m.invoke(x, args);
        } catch (ReflectiveOperationException e) {
            Check.due(m.getName() + Arrays.toString(args) + " threw " + e.getCause(), true, false);
        }
    }

    private static void in(String what, int v, int least, int most) {
        if (v < least || v > most) {
            Check.due(what + " is " + v, true, false);
        }
    }

    private static void bounds() {
        int[][] looks = {{0, 5}, {0, 14}, {0, 10}, {0, 9999}, {0, 1000}, {0, 1000}, {1, 99}, {1, 52}, {0, 150},
            {Integer.MIN_VALUE, Integer.MAX_VALUE}, {0, 16}, {0, 16}, {0, 16}, {0, 8}, {0, 6}, {0, 1023}};
        for (int what = 0; what < looks.length; what++) {
            in("look " + what, x.look(what), looks[what][0], looks[what][1]);
        }
        int parties = x.look(0);
        int trees = x.look(1);
        int eaters = x.look(2);
        for (int p = 0; p < parties; p++) {
            in("store", x.of(p, 0), 0, 999);
            in("votes", x.of(p, 1), 0, 9999);
            in("seats", x.of(p, 2), 0, 99);
        }
        for (int t = 0; t < trees; t++) {
            in("party", x.tree(t, 0), 0, parties - 1);
            in("place", x.tree(t, 1), 0, 9);
            in("age", x.tree(t, 2), 0, 99);
            in("hanging", x.tree(t, 3), 0, 99);
            in("bear", x.tree(t, 4), 0, 99);
        }
        for (int e = 0; e < eaters; e++) {
            in("hunger", x.who(e, 0), 0, 20);
            in("want", x.who(e, 1), 0, 20);
            in("steps", x.who(e, 2), 0, 8);
            for (int p = 0; p < parties; p++) {
                in("taste", x.who(e, 20 + p), 0, 9);
            }
        }
        Check.due("all is within its bounds", true, true);
    }
}
