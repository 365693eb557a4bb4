import java.lang.management.ManagementFactory;

/** All calls of a run live in one room: what full runs of the dearest calls make stays small. */
public final class RoomTest {
    private static final Checks c = new Checks();
    // The room has some 7.3 million fields and elements; a run of one object shall need a fiftieth of it, at four bytes each.
    private static final long BYTES = 7_300_000L * 4 / 50;

    public static void main(String[] args) {
        run();
        long before = allocated();
        run();
        long made = allocated() - before;
        c.isTrue("a run makes " + made + " bytes", made < BYTES);
        c.end("RoomTest");
    }

    private static long allocated() {
        com.sun.management.ThreadMXBean bean =
            (com.sun.management.ThreadMXBean) ManagementFactory.getThreadMXBean();
        return bean.getThreadAllocatedBytes(Thread.currentThread().getId());
    }

    private static void write(RowsDrawn x, long... packed) {
        for (long w : packed) {
            x.letters(w);
        }
    }

    private static void run() {
        RowsDrawn x = new RowsDrawn();
        for (int p = 0; p < 8; p++) {
            write(x, 0x6262626262622861L, 0x6262626262626262L, 0x6262626262626262L, 0x2962L);
            x.page();
        }
        for (int r = 0; r < 10; r++) {
            write(x, '*' + ('b' << 8));
            x.rule(r % 6);
        }
        for (int i = 0; i < 8; i++) {
            x.law(3, 50, 0);
        }
        for (int i = 0; i < 100; i++) {
            x.mark(0, i % 24, i % 3);
            x.ask(2);
            x.mend(0, 0, 1, 3);
            x.digest();
        }
    }
}
