/** Promises 4 to 11: open, accept, close, segmentSize, connections, halfOpen, entryAge, remembered. */
public final class ConnectionsTest {
    private static final int[] SIZES = {64, 128, 256, 536, 1024, 1360, 1440, 1460};

    public static void main(String[] args) {
        promise4OpenAnswersTheCookie();
        promise4OpenTakesTheGreatestSizeAtMostTheWish();
        promise4OpenStampsTheEpochModulo32();
        promise4OpenKeepsFourEntries();
        promise4OpenKeepsNothingUnderLoad();
        promise4OpenReplacesAnEntryUnderLoad();
        promise4OpenRefusals();
        promise5AcceptByEntry();
        promise5AcceptByEntryLeavesTheOthers();
        promise5AcceptChecksInOrder();
        promise5AcceptStale();
        promise5AcceptUnsolved();
        promise5AcceptForged();
        promise5AcceptReplayed();
        promise5AcceptByCookieLeavesAnotherEntry();
        promise5AcceptRefusals();
        promise5AcceptUndo();
        promise6Close();
        promise6CloseEmptiesTheQueueOfTheLastConnection();
        promise6CloseRefusals();
        promise7SegmentSize();
        promise8Connections();
        promise9HalfOpenExpires();
        promise10EntryAge();
        promise11RemembersTwenty();
        promise11ForgetsWhenAnEpochBegins();
        Expect.end();
    }

    private static void promise4OpenAnswersTheCookie() {
        for (int client = 0; client < 16; client++) {
            CookieServer s = new CookieServer();
            for (int port = 0; port < 8; port++) {
                Expect.that("open " + client + ", " + port, s.open(client, port, SIZES[port]),
                        Expect.cookie(1, client, port, port, 0));
            }
            Expect.that("each opening is counted", s.load(), 8);
        }
    }

    private static void promise4OpenTakesTheGreatestSizeAtMostTheWish() {
        int[] wishes = {64, 127, 128, 255, 256, 535, 536, 1023, 1024, 1359, 1360, 1439, 1440, 1459, 1460, 9999};
        CookieServer s = new CookieServer();
        for (int i = 0; i < wishes.length; i++) {
            int cookie = s.open(0, 0, wishes[i]);
            Expect.that("option of wish " + wishes[i], cookie / 4096 % 8, i / 2);
            Expect.that("size of wish " + wishes[i], s.cookieSize(cookie), SIZES[i / 2]);
        }
    }

    private static void promise4OpenStampsTheEpochModulo32() {
        CookieServer s = new CookieServer();
        for (int epoch = 0; epoch < 70; epoch++) {
            Expect.that("cookie in epoch " + epoch, s.open(9, 3, 600), Expect.cookie(1, 9, 3, 3, epoch));
            s.advance(64);
        }
    }

    private static void promise4OpenKeepsFourEntries() {
        CookieServer s = new CookieServer();
        for (int i = 0; i < 6; i++) {
            Expect.holds("open", s.open(i, 0, 64) >= 0);
            Expect.that("entries after " + (i + 1), s.halfOpen(), Math.min(i + 1, 4));
        }
        Expect.that("fourth is kept", s.entryAge(3, 0), 0);
        Expect.that("fifth is not kept", s.entryAge(4, 0), -1);
        s.advance(3);
        s.open(2, 0, 64);
        Expect.that("a full table still replaces", s.entryAge(2, 0), 0);
        Expect.that("and leaves the others", s.entryAge(1, 0), 3);
        Expect.that("and adds none", s.halfOpen(), 4);
        s.open(2, 1, 64);
        Expect.that("another port is another entry", s.entryAge(2, 1), -1);
    }

    private static void promise4OpenKeepsNothingUnderLoad() {
        CookieServer s = new CookieServer();
        Expect.flood(s, 0, 0, 10);
        s.open(1, 0, 64);
        Expect.that("kept with load 11", s.entryAge(1, 0), 0);
        s.open(2, 0, 64);
        Expect.that("not kept with load 12", s.entryAge(2, 0), -1);
        Expect.that("entries", s.halfOpen(), 2);
        s.advance(16);
        s.open(2, 0, 64);
        Expect.that("kept when the load is gone", s.entryAge(2, 0), 0);
        Expect.that("entries", s.halfOpen(), 3);
    }

    private static void promise4OpenReplacesAnEntryUnderLoad() {
        CookieServer s = new CookieServer();
        int first = s.open(0, 0, 64);
        s.advance(5);
        Expect.flood(s, 1, 0, 20);
        int second = s.open(0, 0, 1460);
        Expect.that("replaced in spite of the load", s.entryAge(0, 0), 0);
        Expect.that("entries", s.halfOpen(), 2);
        Expect.that("the old cookie has no entry", s.accept(0, 0, first, Expect.noSolution(first, 2)), -6);
        Expect.that("the new cookie has one", s.accept(0, 0, second, 0), 1460);
    }

    private static void promise4OpenRefusals() {
        CookieServer s = new CookieServer();
        int[][] bad = {{-1, 0, 64}, {16, 0, 64}, {0, -1, 64}, {0, 8, 64}, {0, 0, 63}, {0, 0, 10000},
            {Integer.MIN_VALUE, 0, 64}, {0, Integer.MAX_VALUE, 64}, {0, 0, Integer.MIN_VALUE}, {0, 0, Integer.MAX_VALUE}};
        for (int[] b : bad) {
            Expect.that("open out of range", s.open(b[0], b[1], b[2]), -2);
        }
        Expect.that("counted", s.errorCount(-2), bad.length);
        Expect.that("no load", s.load(), 0);
        Expect.that("no entry", s.halfOpen(), 0);
        Expect.that("nothing saved", s.undo(), -10);
        Expect.connect(s, 0, 0);
        Expect.that("open a connected port", s.open(0, 0, 64), -3);
        Expect.that("range comes before connected", s.open(0, 0, 63), -2);
        Expect.that("counted", s.errorCount(-3), 1);
        Expect.that("refused opening is no load", s.load(), 1);
        Expect.that("another port is free", s.open(0, 1, 64), Expect.cookie(1, 0, 1, 0, 0));
        s.undo();
        Expect.that("undo takes the load back", s.load(), 1);
        Expect.that("undo takes the entry back", s.halfOpen(), 0);
    }

    private static void promise5AcceptByEntry() {
        CookieServer s = new CookieServer();
        int cookie = s.open(5, 5, 1024);
        Expect.flood(s, 6, 0, 30);
        s.rotateKey(2);
        s.rotateKey(3);
        Expect.that("neither puzzle nor key is looked at", s.accept(5, 5, cookie, Expect.noSolution(cookie, 3)), 1024);
        Expect.that("no work", s.work(), 0);
        Expect.that("not remembered", s.remembered(), 0);
        Expect.that("entry removed", s.entryAge(5, 5), -1);
        Expect.that("the other entry stays", s.entryAge(6, 0), 0);
        Expect.that("one entry", s.halfOpen(), 1);
    }

    private static void promise5AcceptByEntryLeavesTheOthers() {
        for (int removed = 0; removed < 4; removed++) {
            CookieServer s = new CookieServer();
            int[] cookies = new int[4];
            for (int i = 0; i < 4; i++) {
                cookies[i] = s.open(i, i, 64 << i);
                s.advance(1);
            }
            Expect.holds("accept", s.accept(removed, removed, cookies[removed], 0) > 0);
            Expect.that("three left", s.halfOpen(), 3);
            for (int i = 0; i < 4; i++) {
                Expect.that("age of entry " + i, s.entryAge(i, i), i == removed ? -1 : 4 - i);
                Expect.holds("accept", i == removed || s.accept(i, i, cookies[i], 0) > 0);
            }
            Expect.that("all by their entries", s.work(), 0);
            Expect.that("none left", s.halfOpen(), 0);
        }
    }

    private static void promise5AcceptChecksInOrder() {
        CookieServer s = new CookieServer();
        for (int i = 0; i < 10; i++) {
            s.advance(16);
            Expect.connect(s, i, 0);
        }
        s.advance(16);
        int waiting = s.open(12, 0, 64);
        Expect.that("connected comes before full", s.accept(3, 0, 0, 0), -3);
        Expect.that("full comes before the entry", s.accept(12, 0, waiting, 0), -4);
        Expect.that("full comes before stale", s.accept(11, 0, 15 * 32768, 0), -4);
        Expect.that("range comes before connected", s.accept(3, 0, -1, 0), -2);
        Expect.that("entry is still there", s.halfOpen(), 1);
        Expect.that("no work", s.work(), 0);
        s.close(3, 0);
        Expect.that("room again", s.accept(12, 0, waiting, 0), 64);
        Expect.that("ten again", s.connections(), 10);
    }

    private static void promise5AcceptStale() {
        for (int age = 0; age < 33; age++) {
            CookieServer s = new CookieServer();
            int cookie = s.open(1, 1, 64);
            s.advance(20);
            for (int i = 0; i < age; i++) {
                s.advance(64);
            }
            boolean fresh = age % 32 <= 1;
            Expect.that("accept at age " + age, s.accept(1, 1, cookie, 0), fresh ? 64 : -5);
            Expect.that("work at age " + age, s.work(), fresh ? 1 : 0);
        }
        CookieServer s = new CookieServer();
        Expect.that("stamp 31 has age 1 in epoch 0", s.accept(0, 0, 31 * 32768 + Expect.digestOf(1, 0, 0, 31, 0), 0), 64);
        Expect.that("stamp 30 has age 2 in epoch 0", s.accept(0, 1, 30 * 32768 + Expect.digestOf(1, 0, 1, 30, 0), 0), -5);
        Expect.flood(s, 9, 0, 8);
        Expect.that("stale comes before unsolved", s.accept(0, 1, 2 * 32768, Expect.noSolution(2 * 32768, 1)), -5);
    }

    private static void promise5AcceptUnsolved() {
        for (int difficulty = 0; difficulty <= 6; difficulty++) {
            CookieServer s = new CookieServer();
            Expect.flood(s, 15, 7, difficulty * 8);
            int cookie = Expect.cookie(1, 2, 3, 4, 0);
            if (difficulty > 0) {
                Expect.that("unsolved", s.accept(2, 3, cookie, Expect.noSolution(cookie, difficulty)), -6);
                Expect.that("work of the puzzle", s.work(), 1);
                int forged = cookie ^ 1;
                int wrong = Expect.noSolution(forged, difficulty);
                Expect.that("unsolved comes before forged", s.accept(2, 3, forged, wrong), -6);
                Expect.that("work of the puzzle", s.work(), 2);
            }
            Expect.that("solved", s.accept(2, 3, cookie, s.solve(cookie, difficulty, 0)), 1024);
            Expect.that("work of puzzle and digest", s.work(), difficulty > 0 ? 4 : 1);
            Expect.that("counted", s.errorCount(-6), difficulty > 0 ? 2 : 0);
        }
    }

    private static void promise5AcceptForged() {
        CookieServer s = new CookieServer();
        int cookie = Expect.cookie(1, 7, 7, 7, 0);
        Expect.that("another mark", s.accept(7, 7, cookie ^ 1, 0), -7);
        Expect.that("one digest", s.work(), 1);
        Expect.that("another option", s.accept(7, 7, cookie - 4096, 0), -7);
        Expect.that("another port", s.accept(7, 6, cookie, 0), -7);
        Expect.that("another client", s.accept(6, 7, cookie, 0), -7);
        Expect.that("four digests", s.work(), 4);
        s.rotateKey(1);
        Expect.that("with a previous key", s.accept(7, 7, cookie ^ 1, 0), -7);
        Expect.that("two digests more, even with an equal key", s.work(), 6);
        Expect.flood(s, 0, 0, 8);
        int forged = cookie ^ 1;
        Expect.that("with a puzzle", s.accept(7, 7, forged, s.solve(forged, 1, 0)), -7);
        Expect.that("three units more", s.work(), 9);
        Expect.that("genuine", s.accept(7, 7, cookie, s.solve(cookie, 1, 0)), 1460);
        Expect.that("two units more", s.work(), 11);
        Expect.that("counted", s.errorCount(-7), 6);
    }

    private static void promise5AcceptReplayed() {
        CookieServer s = new CookieServer();
        int cookie = Expect.cookie(1, 7, 0, 2, 0);
        Expect.that("first use", s.accept(7, 0, cookie, 0), 256);
        s.close(7, 0);
        Expect.that("second use", s.accept(7, 0, cookie, 0), -8);
        Expect.that("the digest is paid", s.work(), 2);
        Expect.that("counted", s.errorCount(-8), 1);
        s.open(7, 0, 256);
        Expect.that("an entry passes it by", s.accept(7, 0, cookie, 0), 256);
        Expect.that("remembered once", s.remembered(), 1);
        int other = Expect.cookie(1, 7, 1, 2, 0);
        Expect.that("another port", s.accept(7, 1, other, 0), 256);
        Expect.that("remembered", s.remembered(), 2);
        sameCookieOfTwoPlaces();
    }

    // Under two keys one number can be the cookie of two places; a use by one is no use by the other.
    private static void sameCookieOfTwoPlaces() {
        int mine = Expect.cookie(1, 0, 0, 0, 0);
        int key = 0;
        while (Expect.cookie(key, 1, 0, 0, 0) != mine) {
            key++;
        }
        CookieServer s = new CookieServer();
        s.rotateKey(key);
        Expect.that("by the previous key", s.accept(0, 0, mine, 0), 64);
        Expect.that("the same number for another client", s.accept(1, 0, mine, 0), 64);
        Expect.that("both remembered", s.remembered(), 2);
        Expect.that("work", s.work(), 3);
    }

    private static void promise5AcceptByCookieLeavesAnotherEntry() {
        CookieServer s = new CookieServer();
        int first = s.open(3, 3, 64);
        int second = s.open(3, 3, 128);
        Expect.that("by cookie alone", s.accept(3, 3, first, 0), 64);
        Expect.that("the entry stays", s.halfOpen(), 1);
        s.close(3, 3);
        Expect.that("by the entry", s.accept(3, 3, second, 0), 128);
        Expect.that("no more work", s.work(), 1);
    }

    private static void promise5AcceptRefusals() {
        CookieServer s = new CookieServer();
        int[][] bad = {{-1, 0, 0, 0}, {16, 0, 0, 0}, {0, -1, 0, 0}, {0, 8, 0, 0}, {0, 0, -1, 0}, {0, 0, 1048576, 0},
            {0, 0, 0, -1}, {0, 0, 0, 10000}, {Integer.MIN_VALUE, 0, 0, 0}, {0, Integer.MIN_VALUE, 0, 0},
            {0, 0, Integer.MIN_VALUE, 0}, {0, 0, 0, Integer.MAX_VALUE}};
        for (int[] b : bad) {
            Expect.that("accept out of range", s.accept(b[0], b[1], b[2], b[3]), -2);
        }
        Expect.that("counted", s.errorCount(-2), bad.length);
        Expect.that("no work", s.work(), 0);
        Expect.that("greatest cookie and solution are in range", s.accept(15, 7, 1048575, 9999), -7);
        Expect.that("nothing saved", s.undo(), -10);
    }

    private static void promise5AcceptUndo() {
        CookieServer s = new CookieServer();
        int cookie = Expect.cookie(1, 4, 4, 4, 0);
        Expect.that("forged", s.accept(4, 4, cookie ^ 2, 0), -7);
        Expect.that("accept", s.accept(4, 4, cookie, 0), 1024);
        Expect.that("work", s.work(), 2);
        Expect.that("undo", s.undo(), 0);
        Expect.that("the work of accept is taken back, that before it is not", s.work(), 1);
        Expect.that("not remembered", s.remembered(), 0);
        Expect.that("not connected", s.connections(), 0);
        Expect.that("accept again", s.accept(4, 4, cookie, 0), 1024);
        s.close(4, 4);
        Expect.that("replayed", s.accept(4, 4, cookie, 0), -8);
        Expect.that("undo of close", s.undo(), 1);
        Expect.that("work of the failed call is taken back with the state", s.work(), 2);
        Expect.that("error counters are not", s.errorCount(-8), 1);
    }

    private static void promise6Close() {
        CookieServer s = new CookieServer();
        Expect.connect(s, 8, 0);
        Expect.connect(s, 8, 7);
        Expect.connect(s, 9, 0);
        Expect.that("one left", s.close(8, 0), 1);
        Expect.that("it is closed", s.segmentSize(8, 0), -1);
        Expect.that("the other is not", s.segmentSize(8, 7), 64);
        Expect.that("none left", s.close(8, 7), 0);
        Expect.that("one connection", s.connections(), 1);
        Expect.that("undo", s.undo(), 2);
        Expect.that("connected again", s.segmentSize(8, 7), 64);
        Expect.that("two connections", s.connections(), 2);
    }

    private static void promise6CloseEmptiesTheQueueOfTheLastConnection() {
        CookieServer s = new CookieServer();
        Expect.connect(s, 8, 0);
        Expect.connect(s, 8, 1);
        Expect.connect(s, 9, 0);
        s.request(8, 9);
        s.request(8, 9);
        s.request(9, 1);
        s.request(9, 9);
        s.serve(1);
        Expect.that("credit before", s.credit(8), 12);
        s.close(8, 0);
        Expect.that("another connection keeps the queue", s.queued(8), 2);
        Expect.that("and the credit", s.credit(8), 12);
        s.close(8, 1);
        Expect.that("the last one empties it", s.queued(8), 0);
        Expect.that("and the credit", s.credit(8), 0);
        Expect.that("another client's queue stays", s.queued(9), 1);
        s.undo();
        Expect.that("undo brings the queue back", s.queued(8), 2);
        Expect.that("and the credit", s.credit(8), 12);
        Expect.that("which is served", s.serve(18), 2);
        Expect.that("in turns", s.served(8), 9);
        Expect.that("in turns", s.served(9), 10);
    }

    private static void promise6CloseRefusals() {
        CookieServer s = new CookieServer();
        int[][] bad = {{-1, 0}, {16, 0}, {0, -1}, {0, 8}, {Integer.MIN_VALUE, 0}, {0, Integer.MAX_VALUE}};
        for (int[] b : bad) {
            Expect.that("close out of range", s.close(b[0], b[1]), -2);
        }
        s.open(0, 0, 64);
        Expect.that("a half-open port is not connected", s.close(0, 0), -9);
        Expect.that("counted", s.errorCount(-2), bad.length);
        Expect.that("counted", s.errorCount(-9), 1);
        Expect.that("only open was saved", s.undo(), 0);
    }

    private static void promise7SegmentSize() {
        CookieServer s = new CookieServer();
        for (int i = 0; i < 8; i++) {
            int cookie = s.open(i + 8, i, SIZES[i]);
            Expect.that("half-open has no size", s.segmentSize(i + 8, i), -1);
            Expect.that("accept", s.accept(i + 8, i, cookie, 0), SIZES[i]);
            Expect.that("segmentSize", s.segmentSize(i + 8, i), SIZES[i]);
        }
        Expect.that("NONE is no error", s.errorCount(-2), 0);
        int[][] bad = {{-1, 0}, {16, 0}, {0, -1}, {0, 8}, {Integer.MIN_VALUE, 0}, {0, Integer.MAX_VALUE}};
        for (int[] b : bad) {
            Expect.that("segmentSize out of range", s.segmentSize(b[0], b[1]), -2);
        }
        Expect.that("counted", s.errorCount(-2), bad.length);
    }

    private static void promise8Connections() {
        CookieServer s = new CookieServer();
        for (int i = 0; i < 10; i++) {
            Expect.that("connections", s.connections(), i);
            s.advance(16);
            Expect.connect(s, 15 - i, i % 8);
        }
        Expect.that("ten", s.connections(), 10);
        int cookie = s.open(0, 1, 64);
        Expect.that("a half-open entry is none", s.connections(), 10);
        Expect.that("no eleventh", s.accept(0, 1, cookie, 0), -4);
        Expect.that("still ten", s.connections(), 10);
        s.close(15, 0);
        Expect.that("nine", s.connections(), 9);
        s.undo();
        Expect.that("ten after undo", s.connections(), 10);
    }

    private static void promise9HalfOpenExpires() {
        CookieServer s = new CookieServer();
        s.open(0, 0, 64);
        s.advance(1);
        s.open(1, 0, 64);
        s.advance(18);
        Expect.that("at tick 19", s.halfOpen(), 2);
        s.advance(1);
        Expect.that("at tick 20", s.halfOpen(), 1);
        Expect.that("the second stays", s.entryAge(1, 0), 19);
        s.undo();
        Expect.that("back at tick 19", s.halfOpen(), 2);
        s.advance(1000);
        Expect.that("long after", s.halfOpen(), 0);
    }

    private static void promise10EntryAge() {
        CookieServer s = new CookieServer();
        s.advance(100);
        s.open(3, 4, 64);
        for (int age = 0; age < 20; age++) {
            Expect.that("age", s.entryAge(3, 4), age);
            s.advance(1);
        }
        Expect.that("expired", s.entryAge(3, 4), -1);
        Expect.that("another port", s.entryAge(4, 3), -1);
        Expect.that("NONE is no error", s.errorCount(-2), 0);
        int[][] bad = {{-1, 0}, {16, 0}, {0, -1}, {0, 8}, {Integer.MIN_VALUE, 0}, {0, Integer.MAX_VALUE}};
        for (int[] b : bad) {
            Expect.that("entryAge out of range", s.entryAge(b[0], b[1]), -2);
        }
        Expect.that("counted", s.errorCount(-2), bad.length);
    }

    private static void promise11RemembersTwenty() {
        CookieServer s = new CookieServer();
        for (int i = 0; i < 21; i++) {
            int cookie = Expect.cookie(1, i % 16, i / 16, 5, 0);
            Expect.that("accept " + i, s.accept(i % 16, i / 16, cookie, 0), 1360);
            s.close(i % 16, i / 16);
            Expect.that("remembered after " + i, s.remembered(), Math.min(i + 1, 20));
        }
        Expect.that("the second is remembered", s.accept(1, 0, Expect.cookie(1, 1, 0, 5, 0), 0), -8);
        Expect.that("the last is remembered", s.accept(4, 1, Expect.cookie(1, 4, 1, 5, 0), 0), -8);
        Expect.that("the oldest is forgotten", s.accept(0, 0, Expect.cookie(1, 0, 0, 5, 0), 0), 1360);
        Expect.that("still twenty", s.remembered(), 20);
        Expect.that("now the second is forgotten", s.accept(1, 0, Expect.cookie(1, 1, 0, 5, 0), 0), 1360);
        s.undo();
        s.undo();
        Expect.that("undo brings it back", s.accept(1, 0, Expect.cookie(1, 1, 0, 5, 0), 0), -8);
    }

    private static void promise11ForgetsWhenAnEpochBegins() {
        CookieServer s = new CookieServer();
        Expect.that("old stamp", s.accept(0, 0, Expect.cookie(1, 0, 0, 0, 31), 0), 64);
        Expect.that("new stamp", s.accept(0, 1, Expect.cookie(1, 0, 1, 0, 0), 0), 64);
        s.advance(63);
        Expect.that("both", s.remembered(), 2);
        s.advance(1);
        Expect.that("one is two epochs old", s.remembered(), 1);
        s.close(0, 1);
        Expect.that("the other is remembered", s.accept(0, 1, Expect.cookie(1, 0, 1, 0, 0), 0), -8);
        s.advance(64);
        Expect.that("none", s.remembered(), 0);
        s.undo();
        Expect.that("undo brings it back", s.remembered(), 1);
        s.advance(1000);
        Expect.that("a long pause forgets it", s.remembered(), 0);
    }
}
