import java.lang.management.ManagementFactory;

/**
 * All calls of a run live in one room. What the machine counts in bytes stands here for objects
 * and elements: 7.3 million elements of four bytes are some 29 million bytes.
 */
public final class RoomTest {
    private static final long ROOM = 29_000_000L;

    public static void main(String[] args) {
        Due due = new Due();
        long before = allocated();
        long probe = allocated() - before;
        long from = allocated();
        long answers = 0;
        for (int i = 0; i < 512; i++) {
            answers += new SlackRace().flow(0);
        }
        due.is("512 objects", answers, 0);
        smaller(due, "512 objects", allocated() - from - probe, ROOM);

        SlackRace x = new SlackRace();
        from = allocated();
        dearCalls(x);
        smaller(due, "512 dear calls", allocated() - from - probe, ROOM / 20);
        due.close("RoomTest");
    }

    private static long allocated() {
        com.sun.management.ThreadMXBean bean =
                (com.sun.management.ThreadMXBean) ManagementFactory.getThreadMXBean();
        return bean.getThreadAllocatedBytes(Thread.currentThread().getId());
    }

    private static void smaller(Due due, String what, long bytes, long most) {
        System.out.println(what + ": " + bytes + " bytes");
        due.is(what + " take " + bytes + " bytes: no more than " + most, bytes <= most ? 1 : 0, 1);
    }

    private static void dearCalls(SlackRace x) {
        x.boat(500, 50);
        for (int i = 0; i < 6; i++) {
            x.ship(i * 10, 10, 300);
            x.cast(i * 100, i);
            x.move(i % 5);
        }
        x.image(0);
        for (int i = 0; i < 40; i++) {
            x.terms(4, i);
            x.day(i);
            x.order(-1);
            x.calmest(0, 0, 0, 49);
            x.way(0, 0, 0, 49, 5);
            x.margin(0, 0, 22);
            x.most(0, 0);
            x.agree(i % 4, 0);
            x.mark(i);
            x.lost(22, 0, 6, 23);
            x.late(0);
            x.back(0);
        }
    }
}
