/** The examples of the document. */
public final class ExamplesTest {
    public static void main(String[] args) {
        entryWithoutWork();
        cookieAndReplay();
        otherPortAndTooOld();
        servedByCredit();
        errors();
        Expect.end();
    }

    private static void entryWithoutWork() {
        CookieServer s = new CookieServer();
        Expect.that("1: open", s.open(3, 1, 1460), 30421);
        Expect.that("1: halfOpen", s.halfOpen(), 1);
        Expect.that("1: accept", s.accept(3, 1, 30421, 0), 1460);
        Expect.that("1: segmentSize", s.segmentSize(3, 1), 1460);
        Expect.that("1: work", s.work(), 0);
        Expect.that("1: remembered", s.remembered(), 0);
    }

    private static void cookieAndReplay() {
        CookieServer s = new CookieServer();
        Expect.that("2: open", s.open(2, 0, 100), 1165);
        Expect.that("2: advance", s.advance(20), 20);
        Expect.that("2: halfOpen", s.halfOpen(), 0);
        Expect.that("2: accept", s.accept(2, 0, 1165, 0), 64);
        Expect.that("2: work", s.work(), 1);
        Expect.that("2: remembered", s.remembered(), 1);
        Expect.that("2: close", s.close(2, 0), 0);
        Expect.that("2: accept again", s.accept(2, 0, 1165, 0), -8);
    }

    private static void otherPortAndTooOld() {
        CookieServer s = new CookieServer();
        Expect.that("3: open", s.open(2, 0, 100), 1165);
        Expect.that("3: advance", s.advance(20), 20);
        Expect.that("3: accept", s.accept(2, 1, 1165, 0), -7);
        Expect.that("3: advance", s.advance(108), 128);
        Expect.that("3: cookieAge", s.cookieAge(1165), 2);
        Expect.that("3: accept", s.accept(2, 0, 1165, 0), -5);
    }

    private static void servedByCredit() {
        CookieServer s = new CookieServer();
        Expect.that("4: open", s.open(1, 0, 64), 2503);
        Expect.that("4: accept", s.accept(1, 0, 2503, 0), 64);
        Expect.that("4: request", s.request(1, 5), 1);
        Expect.that("4: request", s.request(1, 2), 2);
        Expect.that("4: serve", s.serve(6), 1);
        Expect.that("4: served", s.served(1), 5);
        Expect.that("4: credit", s.credit(1), 3);
    }

    private static void errors() {
        CookieServer s = new CookieServer();
        Expect.that("5: open", s.open(0, 0, 63), -2);
        Expect.that("5: close", s.close(0, 0), -9);
        Expect.that("5: request", s.request(0, 1), -9);
        Expect.that("5: undo", s.undo(), -10);
    }
}
