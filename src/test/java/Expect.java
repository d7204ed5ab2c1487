/** Counts wrong answers and prints each of them; used by all tests of the project. */
final class Expect {
    private static int asked = 0;
    private static int wrong = 0;

    private Expect() {
    }

    static void that(String what, long got, long due) {
        asked++;
        if (got != due) {
            wrong++;
            System.out.println(what + " answered " + got + ", due is " + due);
        }
    }

    static void holds(String what, boolean is) {
        that(what, is ? 1 : 0, 1);
    }

    static void end() {
        if (asked == 0 || wrong > 0) {
            System.out.println(wrong + " of " + asked + " answers are wrong");
            System.exit(1);
        }
    }

    /** The document's digest of a list of numbers with a key. */
    static int digestOf(int key, int... values) {
        long x = key;
        for (int v : values) {
            x = (x * 16807L + v + 1L) % 65521L;
        }
        return (int) (x % 4096L);
    }

    /** The document's cookie for a client, a port and an option in an epoch with a key. */
    static int cookie(int key, int client, int port, int option, int epoch) {
        int stamp = epoch % 32;
        return stamp * 32768 + option * 4096 + digestOf(key, client, port, stamp, option);
    }

    /** Connects a port by way of its half-open entry; the server must have room for one. */
    static void connect(CookieServer server, int client, int port) {
        int cookie = server.open(client, port, 64);
        that("connecting " + client + ", " + port, server.accept(client, port, cookie, 0), 64);
    }

    /** Makes the load greater by openings that leave no trace but four entries at most. */
    static void flood(CookieServer server, int client, int port, int times) {
        for (int i = 0; i < times; i++) {
            holds("flood", server.open(client, port, 64) >= 0);
        }
    }
}
