/** Promises 19 to 24: request, serve, queued, credit, served, shareBits. */
public final class ServiceTest {
    public static void main(String[] args) {
        promise19Request();
        promise19RequestRefusals();
        promise20ServeInTurns();
        promise20ServeStopsAtTheBudget();
        promise20ServeKeepsThePointer();
        promise20ServeForgetsTheCreditOfAnEmptyQueue();
        promise20ServeNothing();
        promise20ServeGrantOutlivesTheQueue();
        promise20ServeGrantIsUndone();
        promise20ServeAfterAQueueWasEmptied();
        promise20ServeFullQueues();
        promise20ServeRefusals();
        promises21To23Refusals();
        promise21Queued();
        promise22Credit();
        promise23Served();
        promise24ShareBits();
        Expect.end();
    }

    private static CookieServer connected(int... clients) {
        CookieServer s = new CookieServer();
        for (int client : clients) {
            s.advance(16);
            Expect.connect(s, client, 0);
        }
        return s;
    }

    private static void promise19Request() {
        CookieServer s = connected(0, 15);
        for (int i = 1; i <= 8; i++) {
            Expect.that("request", s.request(15, i), i);
        }
        Expect.that("ninth", s.request(15, 1), -4);
        Expect.that("full is counted", s.errorCount(-4), 1);
        Expect.that("queue untouched", s.queued(15), 8);
        Expect.that("another client", s.request(0, 9), 1);
        Expect.that("undo", s.undo(), 2);
        Expect.that("taken back", s.queued(0), 0);
        Expect.that("undo", s.undo(), 1);
        Expect.that("taken back", s.queued(15), 7);
    }

    private static void promise19RequestRefusals() {
        CookieServer s = connected(3);
        int[][] bad = {{-1, 1}, {16, 1}, {3, 0}, {3, 10}, {Integer.MIN_VALUE, 1}, {3, Integer.MAX_VALUE}, {3, -1}};
        for (int[] b : bad) {
            Expect.that("request out of range", s.request(b[0], b[1]), -2);
        }
        Expect.that("counted", s.errorCount(-2), bad.length);
        Expect.that("not connected", s.request(4, 1), -9);
        Expect.that("range comes first", s.request(4, 0), -2);
        s.open(4, 0, 64);
        Expect.that("half-open is not connected", s.request(4, 1), -9);
        Expect.that("counted", s.errorCount(-9), 2);
        s.close(3, 0);
        Expect.that("no more connected", s.request(3, 1), -9);
        CookieServer t = connected(3);
        Expect.connect(t, 3, 1);
        t.close(3, 0);
        Expect.that("one of two connections is enough", t.request(3, 1), 1);
    }

    private static void promise20ServeInTurns() {
        CookieServer s = connected(2, 5);
        int[] sizes = {3, 3, 3};
        for (int size : sizes) {
            s.request(5, size);
            s.request(2, size);
        }
        Expect.that("serve(3)", s.serve(3), 1);
        Expect.that("client 2 comes first", s.served(2), 3);
        Expect.that("client 5 has got its credit", s.credit(5), 4);
        Expect.that("client 2 keeps its rest", s.credit(2), 1);
        Expect.that("serve(3)", s.serve(3), 1);
        Expect.that("client 5 comes second", s.served(5), 3);
        Expect.that("client 2 has got credit again", s.credit(2), 5);
        Expect.that("serve(6)", s.serve(6), 2);
        Expect.that("client 2 again", s.served(2), 6);
        Expect.that("client 5 again", s.served(5), 6);
        Expect.that("the rest", s.serve(200), 2);
        Expect.that("client 2", s.served(2), 9);
        Expect.that("client 5", s.served(5), 9);
    }

    private static void promise20ServeStopsAtTheBudget() {
        CookieServer s = connected(0, 1);
        s.request(0, 4);
        s.request(1, 1);
        Expect.that("the first does not fit", s.serve(3), 0);
        Expect.that("so the second waits", s.queued(1), 1);
        Expect.that("credit is given", s.credit(0), 4);
        Expect.that("and not again", s.serve(3) * 100 + s.credit(0), 4);
        Expect.that("an equal budget is enough", s.serve(4), 1);
        Expect.that("client 1 is looked at too, without budget", s.credit(1), 4);
        Expect.that("the last", s.serve(1), 1);
    }

    private static void promise20ServeKeepsThePointer() {
        CookieServer s = connected(3, 14);
        s.request(14, 2);
        s.request(14, 2);
        Expect.that("serve(2)", s.serve(2), 1);
        s.request(3, 1);
        Expect.that("client 14 is still at the pointer", s.serve(2), 1);
        Expect.that("served 14", s.served(14), 4);
        Expect.that("served 3", s.served(3), 0);
        Expect.that("after client 15 comes client 0", s.serve(1), 1);
        Expect.that("served 3", s.served(3), 1);
        s.request(3, 1);
        s.request(14, 1);
        Expect.that("the pointer moved on from client 3", s.serve(1), 1);
        Expect.that("so client 14 was first", s.served(14), 5);
        s.undo();
        Expect.that("undo", s.served(14), 4);
        Expect.that("undo brings the pointer back", s.serve(1), 1);
        Expect.that("client 14 again", s.served(14), 5);
    }

    private static void promise20ServeForgetsTheCreditOfAnEmptyQueue() {
        CookieServer s = connected(6);
        s.request(6, 1);
        Expect.that("serve", s.serve(200), 1);
        Expect.that("credit 3 is gone", s.credit(6), 0);
        s.request(6, 4);
        s.request(6, 9);
        Expect.that("serve", s.serve(4), 1);
        Expect.that("by saving it up", s.credit(6), 12);
        Expect.that("serve", s.serve(9), 1);
        Expect.that("gone again", s.credit(6), 0);
    }

    private static void promise20ServeNothing() {
        CookieServer s = connected(1);
        Expect.that("serve(0)", s.serve(0), 0);
        Expect.that("serve(200)", s.serve(200), 0);
        Expect.that("both are saved", s.undo(), 2);
        Expect.that("the pointer has not moved", pointerOf(s), 0);
    }

    // The pointer is seen by who is served first of two waiting clients, 0 and 1.
    private static int pointerOf(CookieServer s) {
        Expect.connect(s, 0, 0);
        s.request(0, 1);
        s.request(1, 1);
        s.serve(1);
        return s.served(0) == 1 ? 0 : 1;
    }

    private static void promise20ServeGrantOutlivesTheQueue() {
        CookieServer s = connected(0, 1);
        s.request(0, 4);
        Expect.that("credit without budget", s.serve(0), 0);
        Expect.that("credit", s.credit(0), 4);
        s.close(0, 0);
        Expect.that("credit lost", s.credit(0), 0);
        s.advance(16);
        Expect.connect(s, 0, 0);
        s.request(0, 4);
        s.request(1, 4);
        Expect.that("client 0 had its credit at this pointer", s.serve(4), 1);
        Expect.that("so client 1 is served", s.served(1), 4);
        Expect.that("served 0", s.served(0), 0);
        Expect.that("client 0 gets credit in the next round", s.credit(0), 4);
    }

    private static void promise20ServeGrantIsUndone() {
        CookieServer s = connected(0);
        s.request(0, 4);
        s.serve(0);
        s.undo();
        Expect.that("no credit", s.credit(0), 0);
        s.serve(0);
        Expect.that("it is given after undo", s.credit(0), 4);
        s.serve(4);
        s.undo();
        s.serve(0);
        Expect.that("undo knows that it was given", s.credit(0), 4);
    }

    private static void promise20ServeAfterAQueueWasEmptied() {
        CookieServer s = connected(1, 2, 3);
        s.request(1, 9);
        s.request(2, 1);
        s.close(1, 0);
        Expect.that("the only request left", s.serve(200), 1);
        s.request(2, 1);
        s.request(3, 1);
        Expect.that("the pointer stands behind client 2", s.serve(1), 1);
        Expect.that("so client 3 was first", s.served(3), 1);
        Expect.that("a closed client is not served", s.served(1), 0);
    }

    private static void promise20ServeFullQueues() {
        CookieServer s = connected(0, 1, 2, 3, 4, 5, 6, 7, 8, 15);
        for (int client = 0; client < 10; client++) {
            for (int i = 0; i < 8; i++) {
                s.request(client == 9 ? 15 : client, client == 9 ? 9 : 1);
            }
        }
        Expect.that("all of 144", s.serve(200), 80);
        Expect.that("client 15", s.served(15), 72);
        Expect.that("client 8", s.served(8), 8);
    }

    private static void promise20ServeRefusals() {
        CookieServer s = connected(1);
        s.request(1, 1);
        int[] bad = {-1, 201, Integer.MIN_VALUE, Integer.MAX_VALUE};
        for (int budget : bad) {
            Expect.that("serve out of range", s.serve(budget), -2);
        }
        Expect.that("counted", s.errorCount(-2), bad.length);
        Expect.that("nothing served", s.queued(1), 1);
        Expect.that("no credit", s.credit(1), 0);
        s.undo();
        Expect.that("the last saved call was the request", s.queued(1), 0);
    }

    private static void promises21To23Refusals() {
        CookieServer s = new CookieServer();
        int[] bad = {-1, 16, Integer.MIN_VALUE, Integer.MAX_VALUE};
        for (int client : bad) {
            Expect.that("queued out of range", s.queued(client), -2);
            Expect.that("credit out of range", s.credit(client), -2);
            Expect.that("served out of range", s.served(client), -2);
            Expect.that("shareBits out of range", s.shareBits(client), -2);
        }
        Expect.that("counted", s.errorCount(-2), 16);
    }

    private static void promise21Queued() {
        CookieServer s = connected(0, 15);
        s.request(0, 9);
        s.request(15, 1);
        s.request(15, 1);
        Expect.that("queued(0)", s.queued(0), 1);
        Expect.that("queued(15)", s.queued(15), 2);
        Expect.that("queued(1)", s.queued(1), 0);
        s.serve(1);
        Expect.that("one less", s.queued(15), 1);
    }

    private static void promise22Credit() {
        CookieServer s = connected(0, 15);
        s.request(0, 9);
        s.request(15, 3);
        s.request(15, 9);
        s.serve(3);
        Expect.that("credit of client 15", s.credit(15), 5);
        Expect.that("credit of client 0", s.credit(0), 12);
        Expect.that("credit of client 1", s.credit(1), 0);
        s.undo();
        Expect.that("undo", s.credit(0), 0);
    }

    private static void promise23Served() {
        CookieServer s = connected(7);
        s.request(7, 9);
        s.request(7, 8);
        s.serve(200);
        Expect.that("served", s.served(7), 17);
        s.request(7, 1);
        s.serve(200);
        Expect.that("served in all", s.served(7), 18);
        s.close(7, 0);
        Expect.that("served outlives the connection", s.served(7), 18);
        Expect.that("served of another", s.served(8), 0);
    }

    private static void promise24ShareBits() {
        CookieServer s = connected(0, 3, 15);
        Expect.that("nothing served", s.shareBits(3), Float.floatToIntBits(0.0f));
        s.request(3, 1);
        Expect.that("still nothing served", s.shareBits(3), Float.floatToIntBits(0.0f));
        s.serve(200);
        Expect.that("the only one", s.shareBits(3), Float.floatToIntBits(1.0f));
        Expect.that("another one", s.shareBits(0), Float.floatToIntBits(0.0f));
        int[] sizes = {1, 2, 5, 7, 9, 3, 4, 8, 6};
        for (int round = 0; round < 40; round++) {
            int client = round % 11 == 0 ? 0 : round % 3 == 0 ? 3 : 15;
            s.request(client, sizes[round % sizes.length]);
            s.serve(200);
            float whole = (float) (s.served(0) + s.served(3) + s.served(15));
            Expect.that("share of 0", s.shareBits(0), Float.floatToIntBits((float) s.served(0) / whole));
            Expect.that("share of 3", s.shareBits(3), Float.floatToIntBits((float) s.served(3) / whole));
            Expect.that("share of 15", s.shareBits(15), Float.floatToIntBits((float) s.served(15) / whole));
        }
    }
}
