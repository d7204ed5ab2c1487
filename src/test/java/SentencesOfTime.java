import java.util.List;

/** Boundary sentences on the object's life, clients, time and keys; promises 1, 2, 3 and 12. */
final class SentencesOfTime {
    private SentencesOfTime() {
    }

    static List<Sentence> all() {
        return List.of(
            new Sentence("What it is", "An object is used for at most 512 calls after it has been made",
                    SentencesOfTime::the512thCallIsAnswered)
                .brokenBy("errors[OUT_OF_RANGE - code]++;",
                    "errors[OUT_OF_RANGE - code] = Math.min(errors[OUT_OF_RANGE - code] + 1, 510);")
                .brokenBy("counts[Math.floorMod(tick, LOAD_TICKS)]++;",
                    "int i = Math.floorMod(tick, LOAD_TICKS); counts[i] = Math.min(counts[i] + 1, 510);")
                .brokenBy("tick += ticks;", "tick = Math.min(tick + ticks, 510000);"),
            Sentence.described("There are 16 clients, numbered 0 to 15, each with ports 0 to 7.",
                    SentencesOfTime::eachPlaceIsItsOwn)
                .brokenBy("return client * PORTS + port;", "return client * (PORTS - 1) + port;")
                .brokenBy("return client * PORTS + port;", "return client % (CLIENTS - 1) * PORTS + port;"),
            Sentence.described("There are 16 clients, numbered 0 to 15, each with ports 0 to 7.",
                    SentencesOfTime::thereAreNoOtherPlaces)
                .brokenRange("isWithin(client, ", "0", "CLIENTS - 1")
                .brokenRange("isWithin(port, ", "0", "PORTS - 1"),
            Sentence.described("Time is counted in ticks, from 0.", SentencesOfTime::timeBeginsAtZero)
                .brokenBy("tick = 0; presentKey", "tick = 1; presentKey"),
            Sentence.described("The epoch is the number of ticks divided by 64, rounded down.",
                    SentencesOfTime::epochIsRoundedDown)
                .brokenBy("EPOCH_TICKS = 64", "EPOCH_TICKS = 63")
                .brokenBy("EPOCH_TICKS = 64", "EPOCH_TICKS = 65")
                .brokenBy("return tick / EPOCH_TICKS;", "return (tick + EPOCH_TICKS / 2) / EPOCH_TICKS;"),
            Sentence.described("Keys are numbers from 0 to 65520.", SentencesOfTime::leastAndGreatestKeyMakeCookies)
                .brokenBy("now.presentKey = key;", "now.presentKey = Math.max(key, 1);")
                .brokenBy("now.presentKey = key;", "now.presentKey = Math.min(key, MODULUS - 2);"),
            Sentence.described("The present key is initially 1, and there is no previous key.",
                    SentencesOfTime::noPreviousKeyAtFirst)
                .brokenBy("FIRST_KEY = 1;", "FIRST_KEY = 0;")
                .brokenBy("previousKey = NONE;", "previousKey = FIRST_KEY;"),
            Sentence.described("Rotating the key makes the present key the previous one.",
                    SentencesOfTime::onlyTheLastTwoKeysFit)
                .brokenBy("now.previousKey = now.presentKey;",
                    "now.previousKey = now.previousKey == NONE ? now.presentKey : now.previousKey;")
                .brokenBy("now.previousKey = now.presentKey;",
                    "if (key != now.presentKey) { now.previousKey = now.presentKey; }"),
            Sentence.promised(1, "Creates a server at tick 0 without entries, connections and requests, with the key 1.",
                    SentencesOfTime::newServerIsEmpty)
                .brokenBy("count = 0; } void copyFrom(Entries other)", "count = 1; } void copyFrom(Entries other)")
                .brokenBy("total = 0; } void copyFrom(Ports other)", "total = 1; } void copyFrom(Ports other)")
                .brokenBy("count = 0; } void copyFrom(UsedCookies other)", "count = 1; } void copyFrom(UsedCookies other)")
                .brokenBy("lengths = new int[CLIENTS];", "lengths = new int[CLIENTS]; lengths[15] = 1;")
                .brokenBy("count = 0; } void save(State state)", "count = 1; } void save(State state)")
                .brokenBy("FIRST_KEY = 1;", "FIRST_KEY = 2;"),
            Sentence.promised(2, "`ticks`: 0 to 1000", SentencesOfTime::rangeOfTicks)
                .brokenRange("isWithin(ticks, ", "0", "MAX_TICKS"),
            Sentence.promised(2, "Returns the present tick afterwards", SentencesOfTime::tickAfterNoTickAndAfterTheMost)
                .brokenBy("now.pass(ticks); return now.tick;", "int before = now.tick; now.pass(ticks); return before;")
                .brokenBy("tick += ticks;", "tick += Math.max(ticks, 1);")
                .brokenBy("tick += ticks;", "tick += Math.min(ticks, 999);"),
            Sentence.promised(2, "OUT_OF_RANGE if ticks is out of range", SentencesOfTime::refusedTicksDoNotPass)
                .brokenBy("if (!isWithin(ticks, 0, MAX_TICKS)) { return",
                    "if (!isWithin(ticks, 0, MAX_TICKS)) { now.pass(MAX_TICKS); return")
                .brokenBy("if (!isWithin(ticks, 0, MAX_TICKS)) { return",
                    "if (!isWithin(ticks, 0, MAX_TICKS)) { history.save(now); return"),
            Sentence.promised(3, "`key`: the new present key, 0 to 65520", SentencesOfTime::rangeOfKeys)
                .brokenRange("isWithin(key, ", "0", "MODULUS - 1"),
            Sentence.promised(3, "Returns the key that becomes the previous one", SentencesOfTime::answersOfRotations)
                .brokenBy("return now.previousKey;", "return now.presentKey;")
                .brokenBy("return now.previousKey;", "return Math.max(now.previousKey, 1);"),
            Sentence.promised(3, "OUT_OF_RANGE if key is out of range", SentencesOfTime::refusedKeyIsNotTaken)
                .brokenBy("if (!isWithin(key, 0, MODULUS - 1)) { return",
                    "if (!isWithin(key, 0, MODULUS - 1)) { now.previousKey = now.presentKey; return")
                .brokenBy("if (!isWithin(key, 0, MODULUS - 1)) { return",
                    "if (!isWithin(key, 0, MODULUS - 1)) { history.save(now); return"),
            Sentence.promised(12, "Returns the epoch.", SentencesOfTime::epochDoesNotWrapAround)
                .brokenBy("public int epoch() { return now.currentEpoch();",
                    "public int epoch() { return now.currentEpoch() % STAMPS;"));
    }

    private static void the512thCallIsAnswered() {
        CookieServer refused = new CookieServer();
        CookieServer opened = new CookieServer();
        CookieServer late = new CookieServer();
        for (int i = 0; i < 511; i++) {
            Expect.that("refused", refused.open(0, 0, 63), -2);
            Expect.that("opened", opened.open(0, 0, 64), 3856);
            Expect.that("advanced", late.advance(1000), 1000 * (i + 1));
        }
        Expect.that("511 errors", refused.errorCount(-2), 511);
        Expect.that("511 openings", opened.load(), 511);
        Expect.that("epoch at tick 511000", late.epoch(), 7984);
    }

    private static void eachPlaceIsItsOwn() {
        for (int place = 0; place < 128; place++) {
            CookieServer s = new CookieServer();
            Expect.connect(s, place / 8, place % 8);
            for (int other = 0; other < 128; other++) {
                Expect.that("segmentSize of " + other, s.segmentSize(other / 8, other % 8), other == place ? 64 : -1);
            }
        }
    }

    private static void thereAreNoOtherPlaces() {
        Expect.range("client", 0, 15, (s, client) -> s.segmentSize(client, 0));
        Expect.range("port", 0, 7, (s, port) -> s.segmentSize(0, port));
        Expect.range("client", 0, 15, (s, client) -> s.queued(client));
    }

    private static void timeBeginsAtZero() {
        Expect.that("advance(0)", new CookieServer().advance(0), 0);
        Expect.that("advance(1)", new CookieServer().advance(1), 1);
    }

    private static void epochIsRoundedDown() {
        for (int tick : new int[] {0, 1, 31, 32, 62, 63, 64, 65, 127, 128, 191, 192, 959, 960, 1000}) {
            CookieServer s = new CookieServer();
            s.advance(tick);
            Expect.that("epoch at tick " + tick, s.epoch(), tick / 64);
        }
    }

    private static void leastAndGreatestKeyMakeCookies() {
        for (int key : new int[] {0, 65520}) {
            CookieServer s = new CookieServer();
            s.rotateKey(key);
            int cookie = Expect.cookie(key, 7, 3, 4, 0);
            Expect.that("open with key " + key, s.open(7, 3, 1024), cookie);
            s.advance(20);
            Expect.that("accept with key " + key, s.accept(7, 3, cookie, 0), 1024);
            Expect.that("by the present key", s.work(), 1);
        }
    }

    private static void noPreviousKeyAtFirst() {
        CookieServer s = new CookieServer();
        int cookie = Expect.cookie(1, 0, 0, 0, 0);
        Expect.that("the cookie of key 1", s.open(0, 0, 64), cookie);
        s.advance(20);
        Expect.refusedAfterWork("a forged cookie", s, -7, 1, () -> s.accept(0, 0, cookie ^ 1, 0));
        for (int key : new int[] {0, 2, 65520}) {
            int other = Expect.cookie(key, 0, 0, 0, 0);
            Expect.refusedAfterWork("a cookie of key " + key, s, -7, 1, () -> s.accept(0, 0, other, 0));
        }
        Expect.that("the first rotation", s.rotateKey(9), 1);
    }

    private static void onlyTheLastTwoKeysFit() {
        CookieServer s = new CookieServer();
        s.rotateKey(100);
        s.rotateKey(200);
        Expect.refusedAfterWork("key 1", s, -7, 2, () -> s.accept(0, 0, Expect.cookie(1, 0, 0, 0, 0), 0));
        Expect.that("key 100", s.accept(0, 1, Expect.cookie(100, 0, 1, 0, 0), 0), 64);
        Expect.that("key 200", s.accept(0, 2, Expect.cookie(200, 0, 2, 0, 0), 0), 64);
        s.rotateKey(200);
        Expect.refusedAfterWork("key 100", s, -7, 2, () -> s.accept(0, 3, Expect.cookie(100, 0, 3, 0, 0), 0));
        Expect.that("key 200", s.accept(0, 4, Expect.cookie(200, 0, 4, 0, 0), 0), 64);
    }

    private static void newServerIsEmpty() {
        CookieServer s = new CookieServer();
        Expect.that("halfOpen", s.halfOpen(), 0);
        Expect.that("connections", s.connections(), 0);
        Expect.that("remembered", s.remembered(), 0);
        Expect.that("load", s.load(), 0);
        Expect.that("work", s.work(), 0);
        for (int client = 0; client < 16; client++) {
            Expect.that("queued", s.queued(client), 0);
            Expect.that("credit", s.credit(client), 0);
            Expect.that("served", s.served(client), 0);
        }
        Expect.that("undo", s.undo(), -10);
        Expect.that("tick", s.advance(0), 0);
        Expect.that("key", s.rotateKey(0), 1);
    }

    private static void rangeOfTicks() {
        Expect.range("advance", 0, 1000, (s, ticks) -> s.advance(ticks));
    }

    private static void tickAfterNoTickAndAfterTheMost() {
        CookieServer s = new CookieServer();
        Expect.that("advance(1000)", s.advance(1000), 1000);
        Expect.that("advance(0)", s.advance(0), 1000);
        Expect.that("advance(1)", s.advance(1), 1001);
        Expect.that("advance(1000)", s.advance(1000), 2001);
    }

    private static void refusedTicksDoNotPass() {
        CookieServer s = new CookieServer();
        s.open(0, 0, 64);
        Expect.that("advance(1001)", s.advance(1001), -2);
        Expect.that("advance(-1)", s.advance(-1), -2);
        Expect.that("the entry has not aged", s.entryAge(0, 0), 0);
        Expect.that("the load is the same", s.load(), 1);
        Expect.that("only open was saved", s.undo(), 0);
        Expect.that("the tick is the same", s.advance(0), 0);
    }

    private static void rangeOfKeys() {
        Expect.range("rotateKey", 0, 65520, (s, key) -> s.rotateKey(key));
    }

    private static void answersOfRotations() {
        CookieServer s = new CookieServer();
        Expect.that("from the first key", s.rotateKey(0), 1);
        Expect.that("from the least key", s.rotateKey(65520), 0);
        Expect.that("from the greatest key", s.rotateKey(5), 65520);
        Expect.that("to an equal key", s.rotateKey(5), 5);
    }

    private static void refusedKeyIsNotTaken() {
        CookieServer s = new CookieServer();
        Expect.that("rotateKey(65521)", s.rotateKey(65521), -2);
        Expect.that("rotateKey(-1)", s.rotateKey(-1), -2);
        int cookie = Expect.cookie(1, 0, 0, 0, 0);
        Expect.refusedAfterWork("still no previous key", s, -7, 1, () -> s.accept(0, 0, cookie ^ 1, 0));
        Expect.that("still key 1", s.accept(0, 0, cookie, 0), 64);
        Expect.that("only accept was saved", s.undo(), 0);
    }

    private static void epochDoesNotWrapAround() {
        CookieServer s = new CookieServer();
        s.advance(1000);
        s.advance(1000);
        s.advance(47);
        Expect.that("epoch at tick 2047", s.epoch(), 31);
        s.advance(1);
        Expect.that("epoch at tick 2048", s.epoch(), 32);
    }
}
