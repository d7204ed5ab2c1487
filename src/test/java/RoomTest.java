import java.lang.management.ManagementFactory;

/** What the task asks beside the promises: calls make no objects, and no call throws, however late it comes. */
public final class RoomTest {
    private static final int[] VALUES = {Integer.MIN_VALUE, -32768, -11, -10, -3, -2, -1, 0, 1, 2, 7, 8, 9, 10, 15, 16, 63,
        64, 100, 200, 201, 1000, 1001, 1460, 9999, 10000, 65520, 65521, 1048575, 1048576, Integer.MAX_VALUE};

    public static void main(String[] args) {
        callsMakeNoObjects();
        lateCallsDoNotThrow();
        Expect.end();
    }

    private static void callsMakeNoObjects() {
        com.sun.management.ThreadMXBean bean = (com.sun.management.ThreadMXBean) ManagementFactory.getThreadMXBean();
        if (!bean.isThreadAllocatedMemorySupported()) {
            return;
        }
        long thread = Thread.currentThread().getId();
        everyCall(new CookieServer(), 0);
        CookieServer server = new CookieServer();
        bean.getThreadAllocatedBytes(thread);
        long before = bean.getThreadAllocatedBytes(thread);
        for (int i = 0; i < 2000; i++) {
            everyCall(server, i);
        }
        long made = bean.getThreadAllocatedBytes(thread) - before;
        Expect.holds("some 60000 calls made " + made + " bytes", made < 10000);
    }

    // Some 30 calls with arguments that are now in range, now not.
    private static long everyCall(CookieServer s, int i) {
        int a = VALUES[i % VALUES.length];
        int b = VALUES[i / 7 % VALUES.length];
        long sum = s.open(i % 16, i % 8, 64 + i % 1500) + s.open(a, b, i) + s.epoch();
        int cookie = Math.max(0, s.open(i % 16, 0, 64 + i % 1500));
        sum += s.accept(i % 16, 0, cookie, Math.max(0, s.solve(cookie, s.difficulty(), 0)));
        sum += s.accept(a, b, a, b) + s.solve(a, b, i) + s.request(i % 16, 1 + i % 9) + s.request(a, b);
        sum += s.serve(i % 30) + s.serve(a) + s.close(i / 3 % 16, i % 2) + s.close(a, b) + s.segmentSize(a, b);
        sum += s.connections() + s.halfOpen() + s.entryAge(a, b) + s.remembered() + s.load() + s.cookieAge(a);
        sum += s.cookieSize(a) + s.work() + s.queued(a) + s.credit(a) + s.served(a) + s.shareBits(a) + s.errorCount(a);
        sum += (i % 5 == 0 ? s.undo() : 0) + (i % 90 == 0 ? s.rotateKey(b) : 0) + s.advance(i % 11 == 0 ? a : i % 3);
        return sum + s.digest();
    }

    // What such late calls answer is free, but they must answer; the ticks run over the int's end.
    private static void lateCallsDoNotThrow() {
        CookieServer s = new CookieServer();
        for (int i = 0; i < 20000; i++) {
            everyCall(s, i);
        }
        for (int i = 0; i < 2300000; i++) {
            s.advance(1000);
        }
        long sum = 0;
        for (int i = 0; i < 20000; i++) {
            sum += everyCall(s, i);
        }
        Expect.holds("late calls came to an end", sum != 1 || s.connections() <= 10);
    }
}
