/** Promises 1 (a new object), 2 (advance), 3 (rotateKey) and 12 (epoch). */
public final class TimeAndKeysTest {
    public static void main(String[] args) {
        promise1NewObject();
        promise1ConstantsAsInTheDocument();
        promise2AdvanceAddsTicks();
        promise2AdvanceRefusesOutOfRange();
        promise2AdvanceIsUndoable();
        promise3RotateKeyAnswersTheOldKey();
        promise3PresentKeyMarksNewCookies();
        promise3PreviousKeyStillFits();
        promise3RotateKeyRefusesOutOfRange();
        promise12EpochIsTicksBySixtyFour();
        Expect.end();
    }

    private static void promise1NewObject() {
        CookieServer s = new CookieServer();
        Expect.that("new connections", s.connections(), 0);
        Expect.that("new halfOpen", s.halfOpen(), 0);
        Expect.that("new remembered", s.remembered(), 0);
        Expect.that("new epoch", s.epoch(), 0);
        Expect.that("new load", s.load(), 0);
        Expect.that("new difficulty", s.difficulty(), 0);
        Expect.that("new work", s.work(), 0);
        for (int client = 0; client < 16; client++) {
            Expect.that("new queued", s.queued(client), 0);
            Expect.that("new credit", s.credit(client), 0);
            Expect.that("new served", s.served(client), 0);
            for (int port = 0; port < 8; port++) {
                Expect.that("new segmentSize", s.segmentSize(client, port), -1);
                Expect.that("new entryAge", s.entryAge(client, port), -1);
            }
        }
        for (int code = -10; code <= -2; code++) {
            Expect.that("new errorCount", s.errorCount(code), 0);
        }
        Expect.that("new tick", s.advance(0), 0);
        Expect.that("new key", s.rotateKey(5), 1);
        Expect.that("new server has saved nothing before", s.undo(), 1);
    }

    private static void promise1ConstantsAsInTheDocument() {
        Expect.that("OUT_OF_RANGE", CookieServer.OUT_OF_RANGE, -2);
        Expect.that("CONNECTED", CookieServer.CONNECTED, -3);
        Expect.that("FULL", CookieServer.FULL, -4);
        Expect.that("STALE", CookieServer.STALE, -5);
        Expect.that("UNSOLVED", CookieServer.UNSOLVED, -6);
        Expect.that("FORGED", CookieServer.FORGED, -7);
        Expect.that("REPLAYED", CookieServer.REPLAYED, -8);
        Expect.that("NOT_CONNECTED", CookieServer.NOT_CONNECTED, -9);
        Expect.that("NOTHING_SAVED", CookieServer.NOTHING_SAVED, -10);
        Expect.that("NONE", CookieServer.NONE, -1);
    }

    private static void promise2AdvanceAddsTicks() {
        CookieServer s = new CookieServer();
        Expect.that("advance(0)", s.advance(0), 0);
        Expect.that("advance(1)", s.advance(1), 1);
        Expect.that("advance(1000)", s.advance(1000), 1001);
        Expect.that("advance(0)", s.advance(0), 1001);
        CookieServer t = new CookieServer();
        for (int i = 1; i <= 512; i++) {
            Expect.that("advance(1000) often", t.advance(1000), 1000 * i);
        }
    }

    private static void promise2AdvanceRefusesOutOfRange() {
        CookieServer s = new CookieServer();
        s.advance(7);
        int[] bad = {-1, 1001, Integer.MIN_VALUE, Integer.MAX_VALUE};
        for (int ticks : bad) {
            Expect.that("advance(" + ticks + ")", s.advance(ticks), -2);
        }
        Expect.that("refused calls counted", s.errorCount(-2), 4);
        Expect.that("tick untouched", s.advance(0), 7);
        Expect.that("refused calls saved nothing", s.undo(), 1);
    }

    private static void promise2AdvanceIsUndoable() {
        CookieServer s = new CookieServer();
        s.advance(5);
        s.advance(100);
        Expect.that("undo", s.undo(), 1);
        Expect.that("tick is back", s.advance(0), 5);
    }

    private static void promise3RotateKeyAnswersTheOldKey() {
        CookieServer s = new CookieServer();
        Expect.that("first rotation", s.rotateKey(0), 1);
        Expect.that("second rotation", s.rotateKey(65520), 0);
        Expect.that("third rotation", s.rotateKey(65520), 65520);
        Expect.that("undo", s.undo(), 2);
        Expect.that("undo", s.undo(), 1);
        Expect.that("key is back", s.rotateKey(9), 0);
    }

    private static void promise3PresentKeyMarksNewCookies() {
        CookieServer s = new CookieServer();
        Expect.that("with key 1", s.open(4, 5, 300), Expect.cookie(1, 4, 5, 2, 0));
        s.rotateKey(65520);
        Expect.that("with key 65520", s.open(4, 5, 300), Expect.cookie(65520, 4, 5, 2, 0));
        s.rotateKey(0);
        Expect.that("with key 0", s.open(4, 5, 300), Expect.cookie(0, 4, 5, 2, 0));
    }

    private static void promise3PreviousKeyStillFits() {
        CookieServer s = new CookieServer();
        int old = s.open(6, 1, 1400);
        s.advance(20);
        s.rotateKey(4711);
        Expect.that("by the previous key", s.accept(6, 1, old, 0), 1360);
        Expect.that("two digests", s.work(), 2);
        s.close(6, 1);
        s.rotateKey(4712);
        Expect.that("before the previous key", s.accept(6, 1, old, 0), -7);
        Expect.that("two digests more", s.work(), 4);
    }

    private static void promise3RotateKeyRefusesOutOfRange() {
        CookieServer s = new CookieServer();
        int[] bad = {-1, 65521, Integer.MIN_VALUE, Integer.MAX_VALUE};
        for (int key : bad) {
            Expect.that("rotateKey(" + key + ")", s.rotateKey(key), -2);
        }
        Expect.that("refused calls counted", s.errorCount(-2), 4);
        Expect.that("nothing saved", s.undo(), -10);
        Expect.that("key untouched", s.rotateKey(2), 1);
    }

    private static void promise12EpochIsTicksBySixtyFour() {
        CookieServer s = new CookieServer();
        s.advance(63);
        Expect.that("epoch at 63", s.epoch(), 0);
        s.advance(1);
        Expect.that("epoch at 64", s.epoch(), 1);
        s.advance(63);
        Expect.that("epoch at 127", s.epoch(), 1);
        s.advance(1);
        Expect.that("epoch at 128", s.epoch(), 2);
        s.advance(1000);
        s.advance(1000);
        Expect.that("epoch at 2128 is not taken modulo 32", s.epoch(), 33);
        s.undo();
        Expect.that("epoch after undo", s.epoch(), 17);
    }
}
