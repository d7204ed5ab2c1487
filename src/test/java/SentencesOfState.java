import java.math.BigInteger;
import java.util.List;
import java.util.function.IntSupplier;

/** Boundary sentences on undo, errors and the digest; promises 25 to 27. */
final class SentencesOfState {
    private static final String EVERYTHING = "The saved state contains everything except the error counters.";
    private static final String UNCHANGED = "A call that returns an error code changes nothing except that it increments the "
        + "counter of that code";
    private static final String ORDER = "The checks of a method are made in the order in which its error codes are listed.";
    private static final String ENTRIES = "for each entry in the order in which they were kept (an entry that replaced another "
        + "one has its place), its client, port, cookie and age";
    private static final String QUEUES = "for each client the number of its requests, their sizes in order, its credit and the total "
        + "size of its served requests";

    private static final String COUNT = "public int errorCount(int code) { if (!isWithin(code, NOTHING_SAVED, OUT_OF_RANGE))";

    private SentencesOfState() {
    }

    static List<Sentence> all() {
        return List.of(
            Sentence.described("Each successful call of a method whose description says \"undoable\" saves the state from before the "
                    + "call", SentencesOfState::eachUndoableCallIsSaved)
                .brokenBy("history.save(now); now.pass(ticks);", "now.pass(ticks);")
                .brokenBy("history.save(now); now.pass(ticks);", "now.pass(ticks); history.save(now);")
                .brokenBy("history.save(now); now.previousKey", "now.previousKey")
                .brokenBy("history.save(now); int stamp", "int stamp")
                .brokenBy("history.save(now); now.entries.drop(place);", "now.entries.drop(place);")
                .brokenBy("history.save(now); now.workDone += cost;", "now.workDone += cost;")
                .brokenBy("history.save(now); now.workDone += cost;", "now.workDone += cost; history.save(now);")
                .brokenBy("history.save(now); now.ports.disconnect(place);", "now.ports.disconnect(place);")
                .brokenBy("history.save(now); now.service.enqueue(client, size);", "now.service.enqueue(client, size);")
                .brokenBy("history.save(now); return now.service.spend(budget);", "return now.service.spend(budget);"),
            Sentence.described("a method whose description says \"undoable\"", SentencesOfState::otherCallsAreNotSaved)
                .brokenBy("segmentSize(int client, int port) {", "segmentSize(int client, int port) { history.save(now);")
                .brokenBy("public int connections() {", "public int connections() { history.save(now);")
                .brokenBy("public int halfOpen() {", "public int halfOpen() { history.save(now);")
                .brokenBy("entryAge(int client, int port) {", "entryAge(int client, int port) { history.save(now);")
                .brokenBy("public int remembered() {", "public int remembered() { history.save(now);")
                .brokenBy("public int epoch() {", "public int epoch() { history.save(now);")
                .brokenBy("public int load() {", "public int load() { history.save(now);")
                .brokenBy("public int difficulty() {", "public int difficulty() { history.save(now);")
                .brokenBy("solve(int cookie, int difficulty, int from) {",
                    "solve(int cookie, int difficulty, int from) { history.save(now);")
                .brokenBy("cookieAge(int cookie) {", "cookieAge(int cookie) { history.save(now);")
                .brokenBy("cookieSize(int cookie) {", "cookieSize(int cookie) { history.save(now);")
                .brokenBy("public int work() {", "public int work() { history.save(now);")
                .brokenBy("queued(int client) {", "queued(int client) { history.save(now);")
                .brokenBy("credit(int client) {", "credit(int client) { history.save(now);")
                .brokenBy("served(int client) {", "served(int client) { history.save(now);")
                .brokenBy("shareBits(int client) {", "shareBits(int client) { history.save(now);")
                .brokenBy("errorCount(int code) {", "errorCount(int code) { history.save(now);")
                .brokenBy("public long digest() {", "public long digest() { history.save(now);")
                .brokenBy("now = history.takeBack(now);", "State old = now; now = history.takeBack(now); history.save(old);"),
            Sentence.described("even if the call changes nothing", SentencesOfState::callsThatChangeNothingAreSaved)
                .brokenBy("history.save(now); now.pass(ticks);", "if (ticks > 0) { history.save(now); } now.pass(ticks);")
                .brokenBy("history.save(now); return now.service.spend(budget);",
                    "if (budget > 0) { history.save(now); } return now.service.spend(budget);")
                .brokenBy("history.save(now); return now.service.spend(budget);",
                    "if (now.service.waiting > 0) { history.save(now); } return now.service.spend(budget);")
                .brokenBy("history.save(now); now.previousKey",
                    "if (key != now.presentKey || key != now.previousKey) { history.save(now); } now.previousKey"),
            Sentence.described("at most 3 states are saved, and the oldest is dropped first", SentencesOfState::threeStatesAreSaved)
                .brokenBy("MAX_SAVED = 3", "MAX_SAVED = 2")
                .brokenBy("MAX_SAVED = 3", "MAX_SAVED = 4")
                .brokenBy("if (count >= MAX_SAVED) { dropOldest(); }", "if (count >= MAX_SAVED) { return; }")
                .brokenBy("if (count >= MAX_SAVED) { dropOldest(); }", "if (count >= MAX_SAVED) { count = MAX_SAVED - 1; }")
                .brokenBy("if (count >= MAX_SAVED) { dropOldest(); }", "if (count >= MAX_SAVED) { count = 0; }"),
            Sentence.described(EVERYTHING, SentencesOfState::timeKeysAndWorkComeBack)
                .brokenBy("tick = other.tick;", "")
                .brokenBy("presentKey = other.presentKey;", "")
                .brokenBy("previousKey = other.previousKey;", "")
                .brokenBy("workDone = other.workDone;", "")
                .brokenBy("openings.copyFrom(other.openings);", ""),
            Sentence.described(EVERYTHING, SentencesOfState::entriesAndPortsComeBack)
                .brokenBy("entries.copyFrom(other.entries);", "")
                .brokenBy("places, 0, places, 0, MAX_ENTRIES", "places, 0, places, 0, 0")
                .brokenBy("cookies, 0, cookies, 0, MAX_ENTRIES", "cookies, 0, cookies, 0, 0")
                .brokenBy("ticks, 0, ticks, 0, MAX_ENTRIES", "ticks, 0, ticks, 0, 0")
                .brokenBy("ports.copyFrom(other.ports);", "")
                .brokenBy("codes, 0, codes, 0, PLACES", "codes, 0, codes, 0, PLACES - 1")
                .brokenBy("total = other.total;", ""),
            Sentence.described(EVERYTHING, SentencesOfState::usedCookiesComeBack)
                .brokenBy("used.copyFrom(other.used);", "")
                .brokenBy("places, 0, places, 0, MAX_USED", "places, 0, places, 0, MAX_USED - 1")
                .brokenBy("cookies, 0, cookies, 0, MAX_USED", "cookies, 0, cookies, 0, MAX_USED - 1"),
            Sentence.described(EVERYTHING, SentencesOfState::serviceComesBack)
                .brokenBy("service.copyFrom(other.service);", "")
                .brokenBy("sizes, 0, sizes, 0, CLIENTS * MAX_QUEUE", "sizes, 0, sizes, 0, CLIENTS * MAX_QUEUE - 1")
                .brokenBy("lengths, 0, lengths, 0, CLIENTS", "lengths, 0, lengths, 0, CLIENTS - 1")
                .brokenBy("credits, 0, credits, 0, CLIENTS", "credits, 0, credits, 0, CLIENTS - 1")
                .brokenBy("totals, 0, totals, 0, CLIENTS", "totals, 0, totals, 0, CLIENTS - 1")
                .brokenBy("waiting = other.waiting;", "")
                .brokenBy("pointer = other.pointer;", ""),
            Sentence.described(EVERYTHING, SentencesOfState::theGivenCreditComesBack)
                .brokenBy("granted = other.granted;", "")
                .brokenBy("granted = other.granted;", "granted = false;")
                .brokenBy("granted = other.granted;", "granted = true;"),
            Sentence.described("everything except the error counters", SentencesOfState::errorCountersStay)
                .brokenBy("now = history.takeBack(now);", "now = history.takeBack(now); errors[0] = 0;")
                .brokenBy("now = history.takeBack(now);", "now = history.takeBack(now); errors[8] = 0;")
                .brokenBy("now = history.takeBack(now);", "now = history.takeBack(now); errors[5] = Math.max(errors[5] - 1, 0);"),
            Sentence.described(UNCHANGED, SentencesOfState::refusedCallsLeaveNoTrace)
                .brokenBy("public int accept(int client, int port, int cookie, int solution) { if",
                    "public int accept(int client, int port, int cookie, int solution) { history.save(now); if")
                .brokenBy("public int open(int client, int port, int wish) { if",
                    "public int open(int client, int port, int wish) { history.save(now); if")
                .brokenBy("public int request(int client, int size) { if",
                    "public int request(int client, int size) { history.save(now); if")
                .brokenBy("errors[OUT_OF_RANGE - code]++; } return code;",
                    "errors[OUT_OF_RANGE - code]++; now.workDone++; } return code;")
                .brokenBy("errors[OUT_OF_RANGE - code]++;", "errors[0]++;")
                .brokenBy("if (isWithin(code, NOTHING_SAVED, OUT_OF_RANGE)) { errors", "if (code == OUT_OF_RANGE) { errors"),
            Sentence.described("the work of accept is counted also if accept returns an error code",
                    SentencesOfState::workOfFailedAcceptsIsCounted)
                .brokenBy("now.workDone += cost; return fail(code);", "return fail(code);")
                .brokenBy("return failAfterWork(UNSOLVED, cost);", "return fail(UNSOLVED);")
                .brokenBy("return failAfterWork(FORGED, cost);", "return fail(FORGED);")
                .brokenBy("return failAfterWork(REPLAYED, cost);", "return fail(REPLAYED);"),
            Sentence.described(ORDER, SentencesOfState::outOfRangeComesFirst)
                .brokenBy("public int open(int client, int port, int wish) { if",
                    "public int open(int client, int port, int wish) { if (isPlace(client, port) && now.ports.isConnected(placeOf("
                    + "client, port))) { return fail(CONNECTED); } if")
                .brokenBy("public int accept(int client, int port, int cookie, int solution) { if",
                    "public int accept(int client, int port, int cookie, int solution) { if (now.ports.isFull()) { "
                    + "return fail(FULL); } if")
                .brokenBy("public int accept(int client, int port, int cookie, int solution) { if",
                    "public int accept(int client, int port, int cookie, int solution) { if (isPlace(client, port) && "
                    + "now.ports.isConnected(placeOf(client, port))) { return fail(CONNECTED); } if")
                .brokenBy("public int request(int client, int size) { if",
                    "public int request(int client, int size) { if (isClient(client) && now.service.lengths[client] >= MAX_QUEUE) { "
                    + "return fail(FULL); } if")
                .brokenBy("public int request(int client, int size) { if",
                    "public int request(int client, int size) { if (isClient(client) && now.ports.countOf(client) == 0) { "
                    + "return fail(NOT_CONNECTED); } if"),
            Sentence.promised(25, "Restores the most recently saved state and removes it from the saved states.",
                    SentencesOfState::theMostRecentIsRestored)
                .brokenBy("count--; State last = states[count];", "count--; State last = states[0];")
                .brokenBy("states[count] = given; return last;", "states[count] = given; count++; return last;"),
            Sentence.promised(25, "Returns the number of saved states that remain", SentencesOfState::twoOneAndNoneRemain)
                .brokenBy("now = history.takeBack(now); return history.count;",
                    "now = history.takeBack(now); return history.count + 1;")
                .brokenBy("MAX_SAVED = 3", "MAX_SAVED = 4"),
            Sentence.promised(25, "NOTHING_SAVED if there is none", SentencesOfState::undoWithNothingSaved)
                .brokenBy("if (history.count == 0) { return fail(NOTHING_SAVED); }", "")
                .brokenBy("if (history.count == 0) { return fail(NOTHING_SAVED); }",
                    "if (history.count == 0) { return NOTHING_SAVED; }")
                .brokenBy("if (history.count == 0) {", "if (history.count <= 1) {"),
            Sentence.promised(26, "`code`: an error code, -10 to -2", SentencesOfState::rangeOfCodes)
                .brokenRange("public int errorCount(int code) { if (!isWithin(code, ", "NOTHING_SAVED", "OUT_OF_RANGE"),
            Sentence.promised(26, "Returns the counter of the code", SentencesOfState::firstAndLastCounter)
                .brokenBy("return errors[OUT_OF_RANGE - code];", "return errors[Math.min(OUT_OF_RANGE - code, 7)];")
                .brokenBy("return errors[OUT_OF_RANGE - code];", "return errors[Math.max(OUT_OF_RANGE - code, 1)];"),
            Sentence.promised(26, "OUT_OF_RANGE if code is out of range (this increments the counter of OUT_OF_RANGE)",
                    SentencesOfState::aWrongCodeIsCounted)
                .brokenBy(COUNT + " { return fail(OUT_OF_RANGE);", COUNT + " { return OUT_OF_RANGE;")
                .brokenBy(COUNT + " { return fail(OUT_OF_RANGE);", COUNT + " { return 0;"),
            Sentence.promised(27, "the previous key (NONE if there is none)", SentencesOfState::digestWithoutPreviousKey)
                .brokenBy("hash = mix(hash, previousKey);", "hash = mix(hash, Math.max(previousKey, 0));")
                .brokenBy("HASH_START = 2741L", "HASH_START = 2742L"),
            Sentence.promised(27, "the counters of the codes -2, -3, .., -10", SentencesOfState::digestOfTheOutermostCounters)
                .brokenBy("for (int i = 0; i < ERROR_CODES; i++) {", "for (int i = 1; i < ERROR_CODES; i++) {")
                .brokenBy("for (int i = 0; i < ERROR_CODES; i++) {", "for (int i = 0; i < ERROR_CODES - 1; i++) {")
                .brokenBy("for (int i = 0; i < ERROR_CODES; i++) {", "for (int i = ERROR_CODES - 1; i >= 0; i--) {"),
            Sentence.promised(27, ENTRIES, SentencesOfState::digestOfFourEntries)
                .brokenBy("boolean mayAdd) { int index = find(place);",
                    "boolean mayAdd) { if (find(place) >= 0) { drop(place); mayAdd = true; } int index = find(place);")
                .brokenBy("hash = mix(hash, tick - ticks[i]);", "hash = mix(hash, ticks[i]);")
                .brokenBy("hash = mix(hash, places[i] / PORTS); hash = mix(hash, places[i] % PORTS);",
                    "hash = mix(hash, places[i] % PORTS); hash = mix(hash, places[i] / PORTS);"),
            Sentence.promised(27, "1 plus the index of the segment size of its connection, or 0 if the port is not connected",
                    SentencesOfState::digestOfTheOutermostPorts)
                .brokenBy("for (int place = 0; place < PLACES; place++) {", "for (int place = 1; place < PLACES; place++) {")
                .brokenBy("for (int place = 0; place < PLACES; place++) {", "for (int place = 0; place < PLACES - 1; place++) {")
                .brokenBy("hash = mix(hash, codes[place]);", "hash = mix(hash, codes[place] - 1);"),
            Sentence.promised(27, "the number of used cookies that are remembered and these cookies, the oldest first",
                    SentencesOfState::digestOfTwentyUsedCookies)
                .brokenBy("hash = mix(hash, cookies[i]); } return hash;", "hash = mix(hash, cookies[count - 1 - i]); } return hash;")
                .brokenBy("hash = mix(hash, cookies[i]); } return hash;", "hash = mix(hash, i < 19 ? cookies[i] : 0); } return hash;"),
            Sentence.promised(27, QUEUES, SentencesOfState::digestOfTheOutermostQueues)
                .brokenBy("hash = mix(hash, sizes[client * MAX_QUEUE + i]);", "hash = mix(hash, sizes[i]);")
                .brokenBy("hash = mix(hash, sizes[client * MAX_QUEUE + i]);",
                    "hash = mix(hash, i < 7 ? sizes[client * MAX_QUEUE + i] : 0);")
                .brokenBy("hash = mix(hash, sizes[client * MAX_QUEUE + i]);",
                    "hash = mix(hash, sizes[client * MAX_QUEUE + lengths[client] - 1 - i]);")
                .brokenBy("hash = mix(hash, credits[client]); hash = mix(hash, totals[client]);",
                    "hash = mix(hash, totals[client]); hash = mix(hash, credits[client]);"),
            Sentence.promised(27, "the number of saved states", SentencesOfState::digestOfNoneToThreeSaved)
                .brokenBy("return mix(now.mixInto(hash), history.count);", "return now.mixInto(hash);")
                .brokenBy("return mix(now.mixInto(hash), history.count);",
                    "return mix(now.mixInto(hash), Math.min(history.count, 2));")
                .brokenBy("return mix(now.mixInto(hash), history.count);",
                    "return mix(now.mixInto(hash), Math.max(history.count, 1));"),
            Sentence.promised(27, "Returns the hash, with the overflow of long arithmetic ignored.", SentencesOfState::digestOverflows)
                .brokenBy("return 31L * hash + value;", "return (31L * hash + value) & 9223372036854775807L;")
                .brokenBy("return 31L * hash + value;", "return (int) (31L * hash + value);")
                .brokenBy("return 31L * hash + value;",
                    "return hash > 297528130221121800L || hash < 0L ? 9223372036854775807L : 31L * hash + value;"));
    }

    private static void eachUndoableCallIsSaved() {
        undone("advance", s -> s.advance(5));
        undone("rotateKey", s -> s.rotateKey(77));
        undone("open", s -> s.open(0, 0, 64));
        undone("accept by entry", s -> s.accept(3, 3, Expect.cookie(Given.KEY, 3, 3, 3, Given.EPOCH), 0));
        undone("accept by cookie", s -> s.accept(0, 0, Expect.cookie(Given.KEY, 0, 0, 0, Given.EPOCH), 0));
        undone("close", s -> s.close(1, 1));
        undone("request", s -> s.request(1, 2));
        undone("serve", s -> s.serve(9));
    }

    private interface Step {
        int on(CookieServer server);
    }

    // One of the three saved states is used up first, so that the call adds one to them.
    private static void undone(String name, Step step) {
        CookieServer s = Given.busy();
        s.advance(0);
        s.undo();
        long before = s.digest();
        Expect.holds(name + " succeeds", step.on(s) >= 0);
        Expect.holds(name + " changes something", s.digest() != before);
        Expect.that("undo after " + name, s.undo(), 2);
        Expect.that("state after " + name + " and undo", s.digest(), before);
    }

    private static void otherCallsAreNotSaved() {
        CookieServer s = new CookieServer();
        IntSupplier[] queries = {() -> s.segmentSize(0, 0), () -> s.connections(), () -> s.halfOpen(), () -> s.entryAge(0, 0),
            () -> s.remembered(), () -> s.epoch(), () -> s.load(), () -> s.difficulty(), () -> s.solve(0, 0, 0),
            () -> s.cookieAge(0), () -> s.cookieSize(0), () -> s.work(), () -> s.queued(0), () -> s.credit(0), () -> s.served(0),
            () -> s.shareBits(0), () -> s.errorCount(-2), () -> (int) s.digest()};
        for (int i = 0; i < queries.length; i++) {
            queries[i].getAsInt();
            Expect.that("undo after query " + i, s.undo(), -10);
        }
        s.advance(1);
        Expect.that("undo", s.undo(), 0);
        Expect.that("undo of undo", s.undo(), -10);
    }

    private static void callsThatChangeNothingAreSaved() {
        CookieServer s = new CookieServer();
        s.advance(0);
        Expect.that("advance(0)", s.undo(), 0);
        s.serve(0);
        Expect.that("serve(0)", s.undo(), 0);
        s.serve(200);
        Expect.that("serve(200) of empty queues", s.undo(), 0);
        s.rotateKey(1);
        s.rotateKey(1);
        Expect.that("rotateKey to equal keys", s.undo(), 1);
        CookieServer waiting = new CookieServer();
        Expect.connect(waiting, 0, 0);
        waiting.request(0, 4);
        waiting.serve(0);
        waiting.undo();
        waiting.undo();
        waiting.undo();
        Expect.that("a serve without budget was the third", waiting.undo(), -10);
        Expect.that("so the opening is left", waiting.halfOpen(), 1);
    }

    private static void threeStatesAreSaved() {
        CookieServer s = new CookieServer();
        for (int i = 1; i <= 3; i++) {
            s.advance(1);
        }
        Expect.that("back from 3", s.undo(), 2);
        Expect.that("back from 2", s.undo(), 1);
        Expect.that("back from 1", s.undo(), 0);
        Expect.that("three were saved", s.advance(0), 0);
        CookieServer t = new CookieServer();
        for (int i = 1; i <= 4; i++) {
            t.advance(i);
        }
        Expect.that("back from 10", t.undo(), 2);
        Expect.that("back from 6", t.undo(), 1);
        Expect.that("back from 3", t.undo(), 0);
        Expect.that("the oldest was dropped", t.undo(), -10);
        Expect.that("so the tick is 1", t.advance(0), 1);
    }

    private static void timeKeysAndWorkComeBack() {
        CookieServer s = Given.busy();
        s.open(9, 1, 64);
        s.advance(10);
        s.open(9, 1, 64);
        s.rotateKey(30);
        s.undo();
        s.advance(0);
        long before = s.digest();
        s.advance(200);
        s.rotateKey(40);
        Expect.that("work", s.accept(0, 0, Expect.cookie(40, 0, 0, 0, 4) ^ 1, 0), -7);
        s.undo();
        s.undo();
        Expect.that("tick", s.advance(0), 80);
        Expect.that("load", s.load(), 4);
        Expect.that("work", s.work(), 1);
        s.advance(6);
        Expect.that("the openings are at their ticks", s.load(), 1);
        Expect.that("previous key", s.accept(0, 0, Expect.cookie(1, 0, 0, 0, 1), 0), 64);
        Expect.that("two digests", s.work(), 3);
        Expect.that("key", s.rotateKey(50), Given.KEY);
        Expect.holds("another state than before", s.digest() != before);
    }

    private static void entriesAndPortsComeBack() {
        CookieServer s = new CookieServer();
        Expect.connect(s, 0, 0);
        Expect.connect(s, 15, 7);
        int[] cookies = new int[4];
        for (int i = 0; i < 4; i++) {
            cookies[i] = s.open(i + 1, i, 64 << i);
            s.advance(1);
        }
        s.close(0, 0);
        s.close(15, 7);
        s.advance(1000);
        Expect.that("no entries", s.halfOpen(), 0);
        s.undo();
        Expect.that("four entries", s.halfOpen(), 4);
        for (int i = 0; i < 4; i++) {
            Expect.that("age", s.entryAge(i + 1, i), 4 - i);
        }
        s.undo();
        Expect.that("one connection", s.connections(), 1);
        Expect.that("the last port", s.segmentSize(15, 7), 64);
        Expect.that("not the first", s.segmentSize(0, 0), -1);
        s.undo();
        Expect.that("two connections", s.connections(), 2);
        Expect.that("the first port", s.segmentSize(0, 0), 64);
        for (int i = 0; i < 4; i++) {
            Expect.holds("accept by entry", s.accept(i + 1, i, cookies[i], 0) > 0);
        }
        Expect.that("no work", s.work(), 0);
    }

    private static void usedCookiesComeBack() {
        CookieServer s = new CookieServer();
        for (int i = 0; i < 20; i++) {
            Expect.that("use", s.accept(i % 16, i / 16, Expect.cookie(1, i % 16, i / 16, 0, 0), 0), 64);
            s.close(i % 16, i / 16);
        }
        s.advance(1000);
        Expect.that("none", s.remembered(), 0);
        s.undo();
        Expect.that("twenty", s.remembered(), 20);
        for (int i = 0; i < 20; i++) {
            Expect.that("use again", s.accept(i % 16, i / 16, Expect.cookie(1, i % 16, i / 16, 0, 0), 0), -8);
        }
        Expect.that("another", s.accept(9, 7, Expect.cookie(1, 9, 7, 0, 0), 0), 64);
        s.undo();
        Expect.that("the first is remembered again", s.accept(0, 0, Expect.cookie(1, 0, 0, 0, 0), 0), -8);
    }

    private static void serviceComesBack() {
        CookieServer s = new CookieServer();
        Expect.connect(s, 0, 0);
        Expect.connect(s, 15, 0);
        s.request(0, 1);
        s.request(0, 2);
        int[] sizes = {1, 2, 3, 4, 5, 6, 7, 8};
        for (int size : sizes) {
            s.request(15, size);
        }
        s.serve(4);
        s.request(15, 9);
        long before = s.digest();
        s.serve(200);
        s.close(15, 0);
        s.undo();
        s.undo();
        Expect.that("queue of client 0", s.queued(0), 0);
        Expect.that("queue of client 15", s.queued(15), 8);
        Expect.that("credit of client 15", s.credit(15), 3);
        Expect.that("served of client 0", s.served(0), 3);
        Expect.that("served of client 15", s.served(15), 1);
        s.request(0, 1);
        s.undo();
        s.advance(0);
        s.advance(0);
        Expect.that("all of it", s.digest(), before);
        Expect.that("client 15 is at the pointer and all is served", s.serve(200), 8);
        Expect.that("served of client 15", s.served(15), 45);
    }

    private static void theGivenCreditComesBack() {
        CookieServer s = new CookieServer();
        Expect.connect(s, 0, 0);
        Expect.connect(s, 1, 0);
        s.request(1, 4);
        s.request(0, 4);
        s.serve(0);
        s.undo();
        Expect.that("no credit", s.credit(0), 0);
        s.serve(0);
        Expect.that("it is given", s.credit(0), 4);
        Expect.that("and the pointer stays", s.credit(1), 0);
        s.advance(0);
        s.undo();
        s.serve(0);
        Expect.that("it is not given again", s.credit(0), 4);
        s.serve(4);
        s.undo();
        s.serve(0);
        Expect.that("nor after a serve that was undone", s.credit(0), 4);
    }

    private static void errorCountersStay() {
        CookieServer s = new CookieServer();
        s.undo();
        s.advance(1);
        s.open(0, 0, 0);
        s.accept(0, 0, Expect.cookie(1, 0, 0, 0, 0) ^ 1, 0);
        s.advance(1);
        s.open(0, 0, 0);
        s.undo();
        s.undo();
        Expect.that("OUT_OF_RANGE", s.errorCount(-2), 2);
        Expect.that("FORGED", s.errorCount(-7), 1);
        Expect.that("NOTHING_SAVED", s.errorCount(-10), 1);
    }

    private static void refusedCallsLeaveNoTrace() {
        Step[] outOfRange = {s -> s.advance(-1), s -> s.rotateKey(-1), s -> s.open(0, 0, 0), s -> s.accept(0, 0, 0, -1),
            s -> s.close(0, -1), s -> s.segmentSize(0, -1), s -> s.entryAge(0, -1), s -> s.solve(0, 0, -1),
            s -> s.cookieAge(-1), s -> s.cookieSize(-1), s -> s.request(1, 0), s -> s.serve(-1), s -> s.queued(-1),
            s -> s.credit(-1), s -> s.served(-1), s -> s.shareBits(-1), s -> s.errorCount(-1)};
        for (int i = 0; i < outOfRange.length; i++) {
            Step call = outOfRange[i];
            CookieServer busy = Given.busy();
            Expect.refused("call " + i, busy, -2, () -> call.on(busy));
        }
        CookieServer s = Given.busy();
        Expect.refused("open of a connected port", s, -3, () -> s.open(1, 1, 64));
        Expect.refused("accept of a connected port", s, -3, () -> s.accept(1, 1, 0, 0));
        Expect.refused("accept of a stale cookie", s, -5, () -> s.accept(0, 0, 5 * 32768, 0));
        Expect.refused("close of a port not connected", s, -9, () -> s.close(0, 0));
        Expect.refused("request of a client not connected", s, -9, () -> s.request(0, 1));
        for (int i = 0; i < 7; i++) {
            s.request(1, 1);
        }
        Expect.refused("request with a full queue", s, -4, () -> s.request(1, 1));
        for (int i = 0; i < 3; i++) {
            s.undo();
        }
        Expect.refused("undo with nothing saved", s, -10, () -> s.undo());
    }

    private static void workOfFailedAcceptsIsCounted() {
        CookieServer s = Given.busy();
        s.close(2, 2);
        int cookie = Expect.cookie(Given.KEY, 0, 0, 0, Given.EPOCH);
        Expect.refusedAfterWork("FORGED", s, -7, 2, () -> s.accept(0, 0, cookie ^ 1, 0));
        Expect.refusedAfterWork("REPLAYED", s, -8, 1, () -> s.accept(2, 2, Given.USED, 0));
        Expect.flood(s, 15, 7, 8);
        Expect.refusedAfterWork("UNSOLVED", s, -6, 1, () -> s.accept(0, 0, cookie, Expect.noSolution(cookie, 1)));
        Expect.that("in all", s.work(), 5);
    }

    private static void outOfRangeComesFirst() {
        CookieServer s = Given.connected(10);
        for (int i = 0; i < 8; i++) {
            s.request(1, 1);
        }
        Expect.refused("open of a connected port", s, -2, () -> s.open(1, 0, 63));
        Expect.refused("accept of a connected port", s, -2, () -> s.accept(1, 0, 0, 10000));
        Expect.refused("accept with ten connections", s, -2, () -> s.accept(12, 0, 1048576, 0));
        Expect.refused("request with a full queue", s, -2, () -> s.request(1, 10));
        Expect.refused("request without a connection", s, -2, () -> s.request(12, 0));
    }

    private static void theMostRecentIsRestored() {
        CookieServer s = new CookieServer();
        s.advance(1);
        s.advance(10);
        s.advance(100);
        s.undo();
        Expect.that("entry of time", s.advance(0), 11);
        s.undo();
        s.undo();
        Expect.that("the one before", s.advance(0), 1);
        s.undo();
        s.undo();
        Expect.that("the first", s.advance(0), 0);
    }

    private static void twoOneAndNoneRemain() {
        CookieServer s = new CookieServer();
        for (int i = 0; i < 10; i++) {
            s.advance(1);
        }
        Expect.that("two", s.undo(), 2);
        Expect.that("one", s.undo(), 1);
        Expect.that("none", s.undo(), 0);
    }

    private static void undoWithNothingSaved() {
        CookieServer s = new CookieServer();
        Expect.refused("undo of a new server", s, -10, () -> s.undo());
        Expect.refused("undo again", s, -10, () -> s.undo());
        s.advance(1);
        Expect.that("undo of one call", s.undo(), 0);
        Expect.refused("undo again", s, -10, () -> s.undo());
        Expect.that("the state is the first", s.advance(0), 0);
    }

    private static void rangeOfCodes() {
        Expect.range("errorCount", -10, -2, (s, code) -> s.errorCount(code));
    }

    private static void firstAndLastCounter() {
        CookieServer s = new CookieServer();
        s.undo();
        s.undo();
        s.open(0, 0, 0);
        Expect.that("the last", s.errorCount(-10), 2);
        Expect.that("the first", s.errorCount(-2), 1);
        for (int code = -9; code <= -3; code++) {
            Expect.that("another", s.errorCount(code), 0);
        }
    }

    private static void aWrongCodeIsCounted() {
        CookieServer s = new CookieServer();
        Expect.refused("errorCount(-1)", s, -2, () -> s.errorCount(-1));
        Expect.refused("errorCount(-11)", s, -2, () -> s.errorCount(-11));
        Expect.refused("errorCount(0)", s, -2, () -> s.errorCount(0));
        Expect.that("three in all", s.errorCount(-2), 3);
        Expect.that("asking for a counter is no error", s.errorCount(-2), 3);
    }

    // The values of the digest, part by part; what is not said is 0, as in a new server.
    private static long hash(long[] counters, long[] timeToLoad, long[] entries, long[] ports, long[] used, long[] service) {
        long h = 2741;
        for (long[] part : new long[][] {counters, timeToLoad, entries, ports, used, service}) {
            for (long value : part) {
                h = 31 * h + value;
            }
        }
        return h;
    }

    private static long[] row(long... values) {
        return values;
    }

    // The work, the pointer, the clients and the number of saved states.
    private static long[] idle(long work, long saved) {
        long[] values = new long[2 + 16 * 3 + 1];
        values[0] = work;
        values[values.length - 1] = saved;
        return values;
    }

    private static final long[] NO_ERRORS = new long[9];
    private static final long[] NO_PORTS = new long[129];

    private static void digestWithoutPreviousKey() {
        CookieServer s = new CookieServer();
        Expect.that("a new server", s.digest(),
                hash(NO_ERRORS, row(0, 1, -1, 0, 0), row(0), NO_PORTS, row(0), idle(0, 0)));
        s.rotateKey(0);
        s.rotateKey(65520);
        Expect.that("the least and the greatest key", s.digest(),
                hash(NO_ERRORS, row(0, 65520, 0, 0, 0), row(0), NO_PORTS, row(0), idle(0, 2)));
    }

    private static void digestOfTheOutermostCounters() {
        CookieServer s = new CookieServer();
        s.undo();
        s.undo();
        s.open(0, 0, 0);
        Expect.that("the first and the last counter", s.digest(),
                hash(row(1, 0, 0, 0, 0, 0, 0, 0, 2), row(0, 1, -1, 0, 0), row(0), NO_PORTS, row(0), idle(0, 0)));
    }

    private static void digestOfFourEntries() {
        CookieServer s = new CookieServer();
        long first = s.open(0, 0, 64);
        s.open(15, 7, 64);
        s.advance(19);
        Expect.that("two entries of the greatest age", s.digest(), hash(NO_ERRORS, row(19, 1, -1, 0, 0),
                row(2, 0, 0, first, 19, 15, 7, Expect.cookie(1, 15, 7, 0, 0), 19), NO_PORTS, row(0), idle(0, 3)));
        long anew = s.open(0, 0, 128);
        long third = s.open(3, 4, 64);
        long fourth = s.open(4, 3, 64);
        s.open(5, 5, 64);
        Expect.that("four, one of them replaced", s.digest(), hash(NO_ERRORS, row(19, 1, -1, 4, 0),
                row(4, 0, 0, anew, 0, 15, 7, Expect.cookie(1, 15, 7, 0, 0), 19, 3, 4, third, 0, 4, 3, fourth, 0),
                NO_PORTS, row(0), idle(0, 3)));
    }

    private static void digestOfTheOutermostPorts() {
        CookieServer s = new CookieServer();
        s.accept(0, 0, Expect.cookie(1, 0, 0, 0, 0), 0);
        s.accept(15, 7, Expect.cookie(1, 15, 7, 7, 0), 0);
        long[] ports = new long[129];
        ports[0] = 2;
        ports[1] = 1;
        ports[128] = 8;
        long[] used = row(2, Expect.cookie(1, 0, 0, 0, 0), Expect.cookie(1, 15, 7, 7, 0));
        Expect.that("the first and the last port", s.digest(),
                hash(NO_ERRORS, row(0, 1, -1, 0, 0), row(0), ports, used, idle(2, 2)));
    }

    private static void digestOfTwentyUsedCookies() {
        CookieServer s = new CookieServer();
        long[] used = new long[21];
        used[0] = 20;
        for (int i = 0; i < 21; i++) {
            int cookie = Expect.cookie(1, i % 16, i / 16, 6, 0);
            s.accept(i % 16, i / 16, cookie, 0);
            s.close(i % 16, i / 16);
            if (i > 0) {
                used[i] = cookie;
            }
        }
        Expect.that("twenty of 21", s.digest(),
                hash(NO_ERRORS, row(0, 1, -1, 0, 0), row(0), NO_PORTS, used, idle(21, 3)));
    }

    private static void digestOfTheOutermostQueues() {
        CookieServer s = new CookieServer();
        Expect.connect(s, 0, 0);
        Expect.connect(s, 15, 7);
        int[] sizes = {4, 9, 8, 7, 6, 5, 3, 2};
        for (int size : sizes) {
            s.request(0, size);
        }
        s.serve(4);
        s.request(0, 1);
        s.request(15, 7);
        s.request(15, 5);
        long[] ports = new long[129];
        ports[0] = 2;
        ports[1] = 1;
        ports[128] = 1;
        long[] service = new long[2 + 8 + 2 + 16 * 3 + 1];
        long[] first = {0, 0, 8, 9, 8, 7, 6, 5, 3, 2, 1, 12, 4};
        long[] last = {2, 7, 5, 0, 0, 3};
        System.arraycopy(first, 0, service, 0, first.length);
        System.arraycopy(last, 0, service, service.length - last.length, last.length);
        Expect.that("the first queue, which is full, and the last", s.digest(),
                hash(NO_ERRORS, row(0, 1, -1, 2, 0), row(0), ports, row(0), service));
    }

    private static void digestOfNoneToThreeSaved() {
        CookieServer s = new CookieServer();
        for (int calls = 0; calls <= 5; calls++) {
            Expect.that("after " + calls + " calls", s.digest(),
                    hash(NO_ERRORS, row(0, 1, -1, 0, 0), row(0), NO_PORTS, row(0), idle(0, Math.min(calls, 3))));
            s.advance(0);
        }
    }

    // The exact number has some 200 powers of 31; its low 64 bits are what is due.
    private static void digestOverflows() {
        CookieServer s = new CookieServer();
        BigInteger exact = BigInteger.valueOf(2741);
        long[] values = new long[9 + 5 + 1 + 129 + 1 + 2 + 48 + 1];
        values[10] = 1;
        values[11] = -1;
        for (long value : values) {
            exact = exact.multiply(BigInteger.valueOf(31)).add(BigInteger.valueOf(value));
        }
        Expect.that("a new server", s.digest(), exact.longValue());
        int negative = 0;
        for (int i = 0; i < 40; i++) {
            negative += s.digest() < 0 ? 1 : 0;
            s.advance(1);
        }
        Expect.holds("digests of both signs", negative > 0 && negative < 40);
    }
}
