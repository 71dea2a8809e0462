import java.lang.management.ManagementFactory;

/** All calls of a run live in one room: what a house needs is made with it, and calls make nothing more. */
public final class RoomTest {
    private static final com.sun.management.ThreadMXBean THREADS =
        (com.sun.management.ThreadMXBean) ManagementFactory.getThreadMXBean();
    private static long answers = 0;

    private RoomTest() {
    }

    public static void main(String[] args) {
        run(new RoundMill());
        long start = made();
        long idle = made() - start;
        start = made();
        RoundMill x = new RoundMill();
        long house = made() - start - idle;
        start = made();
        run(x);
        long calls = made() - start - idle;
        System.out.println("a house has " + house + " bytes, its calls made " + calls + " more");
        Due.yes("a house is small", house < 400_000);
        Due.yes("calls make next to nothing", calls < 4_000);
        Due.yes("they answered", answers != 0);
        Due.end();
    }

    private static long made() {
        return THREADS.getThreadAllocatedBytes(Thread.currentThread().getId());
    }

    private static void run(RoundMill x) {
        for (int i = 0; i < 6; i++) {
            x.drop(i);
            answers += x.mill(i % 4, i % 4 == 3 ? 64 : 499 - i, i % 4 == 1 ? 1 : i % 4 == 3 ? 2 : 4);
            for (int r = 0; r < 4; r++) {
                x.table(i, r, 3 - r, r + 2 * i + 1);
                x.more(i, r, r);
                x.plate(i, r, 7);
            }
            answers += x.tail(i) + x.round(i) + x.order(i) + x.fixed(i, 12) + x.rounds(i, 12) + x.check(i, 9);
            answers += x.look(i, 3) + x.part(i, 0, 3) + x.split(i, 0, 0) + x.all(i) + x.shortest(i, 4);
            answers += x.line(i, 3, 1) + x.picture(i, 1, 1) + x.seen(i) + x.rest(i, 0) + x.cell(i, 0, 0);
            x.join(i, 0, 0, 3);
            x.paint(i, 1, 1, 3);
            x.move(i, 5);
            x.leap(i, Long.MAX_VALUE);
            x.back(i, Long.MAX_VALUE);
            x.turn(i, 5000);
        }
        x.begin(499);
        for (int i = 0; i < 48; i++) {
            answers += x.tell(i * i * i % 31) + x.least() + x.shown() + x.rule(1);
        }
    }
}
