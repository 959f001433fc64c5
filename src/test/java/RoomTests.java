import java.lang.management.ManagementFactory;

/** The dearest calls on the greatest moors: they end, they throw nothing, and they make no objects. */
public final class RoomTests {
    private static int wrong = 0;

    private static HundredthSheep greatest(boolean byAll) {
        StringBuilder s = new StringBuilder("moor gaps 4 days 2 each 2 due 999;owners 5;start 0 is 1;");
        s.append(byAll ? "law all;" : "law gaps;");
        for (int i = 0; i < 12; i++) {
            s.append("drive ").append(i % 5).append(" gap ").append(i % 2).append(" on 0 at ").append(2 * i);
            s.append(" sheep ").append(99 - i).append(" lambs ").append(99 - 2 * i);
            s.append(i % 3 == 0 ? " painted " + (i + 1) % 5 : "").append(i % 4 == 0 ? " lame;" : ";");
        }
        s.append("fog 0 on 0 misses 2;fog 1 on 0 misses 3;fog 1 on 1 misses 9;");
        HundredthSheep x = new HundredthSheep();
        Trial.type(x, s.toString());
        if (x.moor() <= 0) {
            wrong++;
            System.out.println("fault " + x.fault(0) + " at " + x.fault(1));
        }
        return x;
    }

    private static long dear(HundredthSheep x, int times) {
        long sum = 0;
        for (int k = 0; k < times; k++) {
            sum += x.rests(30) + x.sent(k % 12, 30) + x.split(k % 12, 0) + x.best(k % 12, 0) + x.rest();
            sum += x.luck(2000000000, 20, k % 5) + x.free(k % 5) + x.waits(k % 5, k % 4, 0, 1) + x.due(k * 10, 5);
            sum += x.row(0, 3, 60) + x.orders(0, 0, 0) + x.ring(0, 999, 99) + x.rounds(0, 999) + x.keep(0) + x.back(0);
        }
        return sum;
    }

    /** Every call with arguments at and beyond all edges, in several states: none may throw. */
    private static void edges(HundredthSheep x) {
        int[] at = {Integer.MIN_VALUE, -1, 0, 1, 3, 11, 12, 24, 60, 101, 1000, Integer.MAX_VALUE};
        for (int a : at) {
            x.fault(a);
            x.goes(a);
            x.paid(a);
            x.left(a);
            x.rests(a);
            x.harm(a);
            x.free(a);
            x.all(a);
            x.count(a);
            for (int b : at) {
                x.drive(a, b);
                x.due(a, b);
                x.pays(a, b);
                x.best(a, b);
                x.split(a, b);
                x.sent(a, b);
                x.rounds(a, b);
                x.wrong(a, b);
                x.anew(a, b);
                x.mixed(a, b);
                x.law(a, b);
                edges(x, at, a, b);
            }
        }
    }

    private static void edges(HundredthSheep x, int[] at, int a, int b) {
        for (int c : at) {
            x.sets(a, b, c);
            x.counter(a, b, c);
            x.through(a, b, c);
            x.ring(a, b, c);
            x.orders(a, b, c);
            x.luck(a, b, c);
            x.row(a, b, c);
            x.write(a, b, c);
            x.order(a, b, c, 0);
            x.sure(a, b, c, a);
            x.ewe(a, b, c, a);
            x.waits(a, b, c, a);
            x.paste(a, b, 0, c, a);
            x.paste(0, a, 0, b, c);
        }
    }

    private static long allocated() {
        return ((com.sun.management.ThreadMXBean) ManagementFactory.getThreadMXBean())
            .getThreadAllocatedBytes(Thread.currentThread().getId());
    }

    public static void main(String[] args) {
        HundredthSheep gaps = greatest(false);
        HundredthSheep all = greatest(true);
        dear(gaps, 1);
        allocated();
        long before = allocated();
        long time = System.nanoTime();
        dear(gaps, 17);
        dear(all, 17);
        long millis = (System.nanoTime() - time) / 1000000;
        long made = allocated() - before;
        System.out.println("510 dear calls: " + millis + " ms, " + made + " bytes made");
        if (made > 100000) {
            wrong++;
            System.out.println("calls make objects");
        }
        edges(new HundredthSheep());
        edges(greatest(false));
        edges(greatest(true));
        System.out.println(wrong == 0 ? "the room is kept" : wrong + " are wrong");
        if (wrong != 0) {
            System.exit(1);
        }
    }
}
