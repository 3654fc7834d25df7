import com.sun.management.ThreadMXBean;
import java.lang.management.ManagementFactory;

/** All calls of one run live in one room: a new object is small, and no call but a throwing one makes anything. */
public final class RoomTest {
    public static void main(String[] args) {
        Check check = new Check("RoomTest");
        ThreadMXBean bean = (ThreadMXBean) ManagementFactory.getThreadMXBean();
        long id = Thread.currentThread().getId();
        use(new WristPort());
        long before = bean.getThreadAllocatedBytes(id);
        WristPort x = new WristPort();
        long made = bean.getThreadAllocatedBytes(id) - before;
        check.due("a new object takes " + made + " bytes", made < 100_000, true);
        before = bean.getThreadAllocatedBytes(id);
        for (int i = 0; i < 20; i++) {
            use(x);
        }
        made = bean.getThreadAllocatedBytes(id) - before;
        check.due("the calls made " + made + " bytes", made < 4_000, true);
        check.end();
    }

    private static final long[] PORT = longs("person a old beats 60;person b plain beats 70;person c child beats 50;"
            + "person d plain beats 99;person e calm beats 70;person f child beats 50;asks a b;asks b c;asks f a;"
            + "sets c 700;moods (out < 0) * 5 - asked;       ");
    private static final long[] DAY = longs("quarter;ask a b;quarter;fright c 5;soothe d 6;    ");

    private static long[] longs(String text) {
        long[] row = new long[(text.length() + 23) / 24 * 3];
        for (int i = 0; i < row.length; i++) {
            row[i] = Check.eight(text, i * 8);
        }
        return row;
    }

    private static void feed(WristPort x, long[] row) {
        for (int i = 0; i < row.length; i += 3) {
            x.feed(row[i], row[i + 1], row[i + 2]);
        }
    }

    private static int use(WristPort x) {
        feed(x, PORT);
        int sum = x.port();
        feed(x, DAY);
        sum += x.day();
        x.quarter();
        x.ask(0, 1);
        x.fright(1, 5);
        x.soothe(2, 5);
        x.see(0, 2, 5);
        x.tell(3, 0);
        x.mark(1, false);
        x.undo();
        for (int i = 0; i < 6; i++) {
            sum += x.person(i, 3) + x.later(i, 96) + x.noon(i) + x.meet(i, 0) + x.ordered(i) + x.round(i, -1);
            sum += x.train(i, 9) + x.look(i) + x.comes(i) + x.drift(i, 9) + x.right(i) + x.passes(i, 1, 96);
            sum += x.teacher(i) + x.cure(i) + x.chance(i, 9, 6, 5) + x.years(i, 99, 1) + x.count(i);
        }
        sum += x.judged(1) + x.worst() + x.middle() + x.first() + x.askings(20) + x.missed(9) + x.pairs(0) + x.fits(0);
        sum += x.when() + x.rings() + x.calm() + x.near(9) + x.spread() + x.steady() + x.hub() + x.together();
        sum += x.rests(1, 2, 3, -1);
        x.mark(1, true);
        return sum;
    }
}
