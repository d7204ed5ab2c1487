import java.util.function.IntSupplier;

/** Counts wrong answers and prints each of them; used by all tests of the project. */
final class Expect {
    private static int asked = 0;
    private static int wrong = 0;
    private static boolean quiet = false;
    private static String heading = "";

    private Expect() {
    }

    /** A call of a method with one of its arguments left open. */
    interface Call {
        int on(CookieServer server, int value);
    }

    static void that(String what, long got, long due) {
        asked++;
        if (got != due) {
            wrong++;
            if (!quiet) {
                System.out.println(heading + what + " answered " + got + ", due is " + due);
            }
        }
    }

    static void holds(String what, boolean is) {
        that(what, is ? 1 : 0, 1);
    }

    static void end() {
        if (asked == 0 || wrong > 0) {
            System.out.println(wrong + " of " + asked + " answers are wrong");
            System.exit(1);
        }
    }

    static void beQuiet() {
        quiet = true;
    }

    /** What is printed before each wrong answer from now on. */
    static void under(String words) {
        heading = words.isEmpty() ? "" : words + ": ";
    }

    static int askedSoFar() {
        return asked;
    }

    static int wrongSoFar() {
        return wrong;
    }

    /** Both ends of a range are taken; what lies beyond them is refused and leaves no trace. */
    static void range(String what, int least, int greatest, Call call) {
        for (int value : new int[] {least, greatest}) {
            CookieServer s = Given.busy();
            int before = s.errorCount(-2);
            holds(what + " " + value + " is taken", call.on(s, value) != -2);
            that("errors after " + what + " " + value, s.errorCount(-2), before);
        }
        for (int value : new int[] {least - 1, greatest + 1, Integer.MIN_VALUE, Integer.MAX_VALUE}) {
            CookieServer s = Given.busy();
            refused(what + " " + value, s, -2, () -> call.on(s, value));
        }
    }

    /** The call answers the code, the code's counter grows by one, and nothing else changes. */
    static void refused(String what, CookieServer s, int code, IntSupplier call) {
        refusedAfterWork(what, s, code, 0, call);
    }

    /** The same, but for the work that an accept has done before it failed. */
    static void refusedAfterWork(String what, CookieServer s, int code, int work, IntSupplier call) {
        leaveRoomToSave(s);
        long before = s.digest();
        int counted = s.errorCount(code);
        that(what, call.getAsInt(), code);
        that("counter of " + code + " after " + what, s.errorCount(code), counted + 1);
        long grown = powerOf31(valuesAfterCounter(s, code)) + work * powerOf31(valuesAfterWork(s));
        that("what " + what + " changed", s.digest() - before, grown);
    }

    // While three states are saved, one more does not show in their number.
    private static void leaveRoomToSave(CookieServer s) {
        s.advance(0);
        s.undo();
    }

    // A value of the digest weighs 31 to the power of the number of values that come after it.
    private static long powerOf31(int exponent) {
        long power = 1;
        for (int i = 0; i < exponent; i++) {
            power *= 31;
        }
        return power;
    }

    private static int valuesAfterCounter(CookieServer s, int code) {
        int counters = code + 10;
        int timeKeysLoad = 5;
        int entries = 1 + 4 * s.halfOpen();
        int ports = 1 + 128;
        int used = 1 + s.remembered();
        return counters + timeKeysLoad + entries + ports + used + 1 + valuesAfterWork(s);
    }

    private static int valuesAfterWork(CookieServer s) {
        int values = 1 + 16 * 3 + 1;
        for (int client = 0; client < 16; client++) {
            values += s.queued(client);
        }
        return values;
    }

    /** The document's digest of a list of numbers with a key. */
    static int digestOf(int key, int... values) {
        long x = key;
        for (int v : values) {
            x = (x * 16807L + v + 1L) % 65521L;
        }
        return (int) (x % 4096L);
    }

    /** The document's cookie for a client, a port and an option in an epoch with a key. */
    static int cookie(int key, int client, int port, int option, int epoch) {
        int stamp = epoch % 32;
        return stamp * 32768 + option * 4096 + digestOf(key, client, port, stamp, option);
    }

    static boolean solves(int cookie, int difficulty, int solution) {
        return digestOf(0, cookie, solution) % (1 << difficulty) == 0;
    }

    /** The least number that is no solution; the difficulty is greater than 0. */
    static int noSolution(int cookie, int difficulty) {
        int s = 0;
        while (solves(cookie, difficulty, s)) {
            s++;
        }
        return s;
    }

    /** Connects a port by way of its half-open entry; the server must have room for one. */
    static void connect(CookieServer server, int client, int port) {
        int cookie = server.open(client, port, 64);
        that("connecting " + client + ", " + port, server.accept(client, port, cookie, 0), 64);
    }

    /** Makes the load greater by openings that leave no trace but four entries at most. */
    static void flood(CookieServer server, int client, int port, int times) {
        for (int i = 0; i < times; i++) {
            holds("flood", server.open(client, port, 64) >= 0);
        }
    }
}
