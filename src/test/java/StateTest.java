/** Promises 25 (undo), 26 (errorCount) and 27 (digest). */
public final class StateTest {
    public static void main(String[] args) {
        promise25UndoGoesBackThreeStates();
        promise25UndoRestoresAllButErrors();
        promise25UndoOfEachMethod();
        promise25NothingSaved();
        promise25QueriesSaveNothing();
        promise26ErrorCount();
        promise26ErrorCountRefusals();
        promise27DigestOfANewObject();
        promise27DigestOfAFullState();
        promise27DigestOfReplacedEntries();
        promise27DigestOfQueuesAndPointer();
        promise27DigestChangesNothing();
        Expect.end();
    }

    private static void promise25UndoGoesBackThreeStates() {
        CookieServer s = new CookieServer();
        for (int i = 0; i < 5; i++) {
            s.advance(1);
        }
        Expect.that("first", s.undo(), 2);
        Expect.that("second", s.undo(), 1);
        Expect.that("third", s.undo(), 0);
        Expect.that("fourth", s.undo(), -10);
        Expect.that("the oldest were dropped", s.advance(0), 2);
        Expect.that("saved anew", s.undo(), 0);
        s.advance(10);
        s.advance(10);
        s.undo();
        s.advance(100);
        Expect.that("a new branch", s.undo(), 1);
        Expect.that("its state", s.advance(0), 12);
    }

    private static void promise25UndoRestoresAllButErrors() {
        CookieServer s = new CookieServer();
        s.advance(70);
        s.rotateKey(12);
        Expect.connect(s, 1, 1);
        s.request(1, 3);
        s.request(1, 9);
        s.serve(3);
        s.accept(2, 2, Expect.cookie(12, 2, 2, 2, 1), 0);
        s.open(3, 3, 700);
        long before = s.digest();
        s.advance(100);
        s.close(1, 1);
        s.rotateKey(13);
        for (int i = 0; i < 3; i++) {
            Expect.that("undo", s.undo(), 2 - i);
        }
        // The saved states are part of the digest, so three calls that change nothing fill them again.
        s.advance(0);
        s.advance(0);
        s.advance(0);
        Expect.that("the same state", s.digest(), before);
        s.undo();
        s.open(0, 0, 1);
        s.advance(0);
        Expect.holds("the error counters are not restored", s.digest() != before);
        Expect.that("but counted", s.errorCount(-2), 1);
    }

    private static void promise25UndoOfEachMethod() {
        CookieServer s = new CookieServer();
        int cookie = s.open(1, 1, 64);
        Expect.that("open is saved", s.undo(), 0);
        s.open(1, 1, 64);
        s.undo();
        Expect.that("by cookie", s.accept(1, 1, cookie, 0), 64);
        Expect.that("accept by cookie is saved", s.undo(), 0);
        s.open(1, 1, 64);
        s.accept(1, 1, cookie, 0);
        Expect.that("accept by entry is saved", s.undo(), 1);
        Expect.that("and gives the entry back", s.halfOpen(), 1);
        s.accept(1, 1, cookie, 0);
        s.request(1, 4);
        Expect.that("request is saved", s.undo(), 2);
        s.serve(0);
        Expect.that("serve is saved", s.undo(), 2);
        s.close(1, 1);
        Expect.that("close is saved", s.undo(), 2);
        s.advance(0);
        Expect.that("advance is saved", s.undo(), 2);
        s.rotateKey(1);
        Expect.that("rotateKey is saved", s.undo(), 2);
        Expect.that("and takes the previous key back", s.accept(2, 2, Expect.cookie(1, 2, 2, 0, 0) ^ 1, 0), -7);
        Expect.that("so that one digest is computed", s.work(), 1);
    }

    private static void promise25NothingSaved() {
        CookieServer s = new CookieServer();
        Expect.that("undo", s.undo(), -10);
        Expect.that("undo", s.undo(), -10);
        Expect.that("counted", s.errorCount(-10), 2);
    }

    private static void promise25QueriesSaveNothing() {
        CookieServer s = new CookieServer();
        s.segmentSize(0, 0);
        s.connections();
        s.halfOpen();
        s.entryAge(0, 0);
        s.remembered();
        s.epoch();
        s.load();
        s.difficulty();
        s.solve(0, 0, 0);
        s.cookieAge(0);
        s.cookieSize(0);
        s.work();
        s.queued(0);
        s.credit(0);
        s.served(0);
        s.shareBits(0);
        s.errorCount(-2);
        s.digest();
        s.close(0, 0);
        s.request(0, 1);
        s.accept(0, 0, 0, 0);
        Expect.that("neither queries nor refused calls are saved", s.undo(), -10);
    }

    private static void promise26ErrorCount() {
        CookieServer s = new CookieServer();
        s.undo();
        s.close(0, 0);
        s.close(0, 0);
        Expect.connect(s, 0, 0);
        s.open(0, 0, 64);
        s.open(0, 0, 64);
        s.open(0, 0, 64);
        for (int i = 0; i < 8; i++) {
            s.request(0, 1);
        }
        for (int i = 0; i < 4; i++) {
            s.request(0, 1);
        }
        for (int i = 0; i < 5; i++) {
            s.accept(1, 0, 9 * 32768, 0);
        }
        int cookie = Expect.cookie(1, 2, 0, 0, 0);
        s.accept(2, 0, cookie, 0);
        s.close(2, 0);
        for (int i = 0; i < 6; i++) {
            s.accept(2, 0, cookie, 0);
        }
        for (int i = 0; i < 7; i++) {
            s.accept(2, 0, cookie ^ 1, 0);
        }
        Expect.flood(s, 3, 0, 8);
        int unsolved = s.solve(cookie, 1, 0) == 0 ? 1 : 0;
        for (int i = 0; i < 8; i++) {
            s.accept(2, 0, cookie, unsolved);
        }
        s.queued(16);
        int[] due = {1, 3, 4, 5, 8, 7, 6, 2, 1};
        for (int code = -2; code >= -10; code--) {
            Expect.that("errorCount(" + code + ")", s.errorCount(code), due[-2 - code]);
        }
        s.undo();
        Expect.that("undo leaves the counters", s.errorCount(-6), 8);
    }

    private static void promise26ErrorCountRefusals() {
        CookieServer s = new CookieServer();
        int[] bad = {-1, -11, 0, 1, Integer.MIN_VALUE, Integer.MAX_VALUE};
        for (int code : bad) {
            Expect.that("errorCount(" + code + ")", s.errorCount(code), -2);
        }
        Expect.that("counted", s.errorCount(-2), bad.length);
        Expect.that("and asking is no error", s.errorCount(-2), bad.length);
    }

    private static long hash(long... values) {
        long h = 2741;
        for (long v : values) {
            h = 31 * h + v;
        }
        return h;
    }

    private static long[] joined(long[]... parts) {
        int length = 0;
        for (long[] part : parts) {
            length += part.length;
        }
        long[] all = new long[length];
        int at = 0;
        for (long[] part : parts) {
            System.arraycopy(part, 0, all, at, part.length);
            at += part.length;
        }
        return all;
    }

    private static long[] row(long... values) {
        return values;
    }

    private static void promise27DigestOfANewObject() {
        CookieServer s = new CookieServer();
        long[] due = joined(new long[9], row(0, 1, -1, 0, 0), row(0), new long[129], row(0), row(0), row(0), new long[48], row(0));
        Expect.that("digest of a new object", s.digest(), hash(due));
    }

    private static void promise27DigestOfAFullState() {
        CookieServer s = new CookieServer();
        s.undo();
        s.close(1, 1);
        s.close(1, 1);
        s.advance(130);
        s.rotateKey(500);
        int used = Expect.cookie(1, 10, 6, 3, 2);
        s.accept(10, 6, used, 0);
        int second = Expect.cookie(500, 0, 1, 7, 1);
        s.accept(0, 1, second, 0);
        int kept = s.open(4, 5, 1440);
        s.advance(6);
        s.request(10, 3);
        s.request(10, 9);
        s.request(0, 6);
        s.serve(3);
        s.advance(9);
        s.undo();
        long[] ports = new long[128];
        ports[10 * 8 + 6] = 4;
        ports[1] = 8;
        long[][] clients = new long[16][];
        for (int i = 0; i < 16; i++) {
            clients[i] = row(0, 0, 0);
        }
        clients[0] = row(1, 6, 8, 0);
        clients[10] = row(1, 9, 1, 3);
        long[] due = joined(row(0, 0, 0, 0, 0, 0, 0, 2, 1), row(136, 500, 1, 1, 0), row(1, 4, 5, kept, 6), row(2), ports,
                row(2, used, second), row(3), row(0), joined(clients), row(2));
        Expect.that("digest of a full state", s.digest(), hash(due));
    }

    private static void promise27DigestOfReplacedEntries() {
        CookieServer s = new CookieServer();
        int first = s.open(0, 0, 64);
        int second = s.open(1, 0, 64);
        int third = s.open(2, 0, 64);
        s.advance(2);
        int anew = s.open(1, 0, 128);
        Expect.holds("another cookie", anew != second);
        long[] due = joined(new long[9], row(2, 1, -1, 4, 0), row(3, 0, 0, first, 2, 1, 0, anew, 0, 2, 0, third, 2),
                new long[129], row(0), row(0), row(0), new long[48], row(3));
        Expect.that("the new entry has the place of the old one", s.digest(), hash(due));
    }

    private static void promise27DigestOfQueuesAndPointer() {
        CookieServer s = new CookieServer();
        Expect.connect(s, 15, 7);
        int[] sizes = {4, 9, 1, 7};
        for (int size : sizes) {
            s.request(15, size);
        }
        Expect.that("serve", s.serve(4), 1);
        long[] ports = new long[128];
        ports[127] = 1;
        long[] due = joined(new long[9], row(0, 1, -1, 1, 0), row(0), row(1), ports, row(0), row(0), row(15), new long[45],
                row(3, 9, 1, 7, 12, 4), row(3));
        Expect.that("digest of a queue", s.digest(), hash(due));
    }

    private static void promise27DigestChangesNothing() {
        CookieServer s = new CookieServer();
        s.open(0, 0, 64);
        long before = s.digest();
        Expect.that("digest again", s.digest(), before);
        s.errorCount(-2);
        Expect.that("a query changes nothing", s.digest(), before);
        s.errorCount(-1);
        Expect.holds("an error does", s.digest() != before);
    }
}
