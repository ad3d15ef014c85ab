import java.lang.management.ManagementFactory;

/** All calls of a run live in one room: a new object is small, and calls make nothing that stays or goes. */
public final class RoomTest {
    private static final Due due = new Due();
    private static final com.sun.management.ThreadMXBean threads =
        (com.sun.management.ThreadMXBean) ManagementFactory.getThreadMXBean();

    public static void main(String[] args) {
        AbsentBells warm = new AbsentBells();
        calls(warm);
        bytes();
        long before = bytes();
        AbsentBells bells = new AbsentBells();
        long made = bytes() - before;
        due.is("a new object takes at most 32768 bytes, here " + made, made <= 32768 ? 1 : 0, 1);
        before = bytes();
        calls(bells);
        long more = bytes() - before;
        due.is("calls take at most 4096 bytes, here " + more, more <= 4096 ? 1 : 0, 1);
        due.end();
    }

    private static long bytes() {
        return threads.getThreadAllocatedBytes(Thread.currentThread().getId());
    }

    private static void calls(AbsentBells bells) {
        String text = "w6;p0;p1;p2;p3;p4;d0 5 0 60;d1 5 0 60;d2 5 0 60;d3 5 0 60;d4 5 9 60;d0 4 30 60;g1;f9;";
        for (int round = 0; round < 40; round++) {
            Due.type(bells, text);
            bells.town();
            bells.goes(0, 3);
            bells.passes(1 + round);
            bells.excuses(1, 1);
            bells.swaps(0, 3);
            bells.keep(0);
            bells.passes(1);
            bells.undo();
            bells.back(0);
            bells.hears(0, 20, 1);
            bells.person(0, 4);
            bells.duty(0, 0);
            for (int what = 0; what < 6; what++) {
                bells.now(what);
                bells.rate(what, 0);
                bells.count(what);
            }
            bells.rings(200);
            bells.chord(1, 0);
            bells.silence(31);
            bells.least(0, 1);
            bells.can(0);
            bells.tells(0, 1, 2);
            bells.odds(0, 20, 5, 0);
            bells.forget();
            bells.type('x');
            bells.clear();
            bells.trace();
        }
    }
}
