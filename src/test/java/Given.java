/** Servers in states that many tests begin with. */
final class Given {
    /** The key of the busy server, and its epoch. */
    static final int KEY = 12;
    static final int EPOCH = 1;
    /** The cookie by which (2, 2) of the busy server is connected. */
    static final int USED = Expect.cookie(KEY, 2, 2, 2, EPOCH);

    private Given() {
    }

    /**
     * Every part of it is in use: (1, 1) is connected by its entry and (2, 2) by its cookie, (3, 3) is
     * half-open, client 1 has credit and a request of size 9 waits, three states are saved.
     */
    static CookieServer busy() {
        CookieServer s = new CookieServer();
        s.advance(70);
        s.rotateKey(KEY);
        Expect.connect(s, 1, 1);
        Expect.that("busy: by cookie", s.accept(2, 2, USED, 0), 256);
        s.request(1, 3);
        s.request(1, 9);
        Expect.that("busy: serve", s.serve(3), 1);
        s.open(3, 3, 700);
        s.undo();
        s.open(3, 3, 700);
        Expect.that("busy: an error", s.open(3, 3, 1), -2);
        return s;
    }

    /** Port 0 of the clients 0 to count - 1 is connected, and the load is 0. */
    static CookieServer connected(int count) {
        CookieServer s = new CookieServer();
        for (int client = 0; client < count; client++) {
            Expect.connect(s, client, 0);
            s.advance(16);
        }
        return s;
    }

    /** A new server after so many openings of (15, 7). */
    static CookieServer loaded(int load) {
        CookieServer s = new CookieServer();
        Expect.flood(s, 15, 7, load);
        return s;
    }
}
