import java.lang.management.ManagementFactory;

/** All calls live in one room: an object is small, and no call makes a thing that is kept or thrown away. */
public final class RoomTest {
    public static void main(String[] args) {
        com.sun.management.ThreadMXBean bean = (com.sun.management.ThreadMXBean) ManagementFactory.getThreadMXBean();
        long id = Thread.currentThread().getId();
        BallotFruit x = new BallotFruit();
        use(x);
        use(x);
        long before = bean.getThreadAllocatedBytes(id);
        BallotFruit y = new BallotFruit();
        long made = bean.getThreadAllocatedBytes(id) - before;
        Check.due("a new object takes " + made + " bytes", made < 60000, true);
        long used = 0;
        for (int i = 0; i < 3; i++) {
            before = bean.getThreadAllocatedBytes(id);
            use(y);
            used = bean.getThreadAllocatedBytes(id) - before;
        }
        // the bean's own answers may cost some
        Check.due("calls took " + used + " bytes", used < 2000, true);
        Check.finish();
    }

    private static void use(BallotFruit x) {
        x.party(9);
        x.party(9);
        for (int e = 0; e < 10; e++) {
            x.eater(20);
        }
        for (int t = 0; t < 13; t++) {
            x.plant(t % 2, t % 10, 90);
        }
        // "eater 0 by 2 5;", then "count hanging-9;"
        x.feed(1700885605, 1914712096, 1652105266, 540359456, 538976288);
        x.end(15);
        x.text(1);
        x.feed(1668248942, 1948280929, 1852270958, 1730961723, 538976288);
        x.end(16);
        x.text(0);
        x.text(2);
        for (int i = 0; i < 20; i++) {
            x.weeks(60);
            x.goes(60, 0, 0);
            x.brings(1, 20, 0);
            x.swings(1, 20);
            x.feeds(0);
            x.core(0, 2);
            x.whose(1);
            x.left(99);
            x.rules(1);
            x.weighs(0);
            x.lasts(0);
            x.meets(0, 1);
            x.game(0);
            x.falls(0);
            x.fence(3, i % 2 == 0);
            x.boil(0, 50);
            x.undo();
            x.image(true);
            x.image(false);
            x.state(3);
            x.book(3, 1);
            x.look(9);
        }
    }
}
