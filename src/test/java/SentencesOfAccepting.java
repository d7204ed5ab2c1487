import java.util.List;

/** Boundary sentences on accepting; promises 5, 11 and 18. */
final class SentencesOfAccepting {
    private static final String RANGE = "if (!isPlace(client, port) || !isCookie(cookie) || !isWithin(solution, 0, SOLUTIONS - 1))";
    private static final String CONNECTED = "if (now.ports.isConnected(place)) { return fail(CONNECTED); }";
    private static final String FULL = "if (now.ports.isFull()) { return fail(FULL); }";
    private static final String ENTRY = "if (now.entries.holds(place, cookie)) { history.save(now); now.entries.drop(place); "
        + "return connect(place, cookie); }";
    private static final String STALE = "if (Cookies.age(cookie, now.currentEpoch()) > FRESH_AGE) { return fail(STALE); }";
    private static final String COST = "int difficulty = now.currentDifficulty(); int cost = difficulty > 0 ? 1 : 0;";
    private static final String UNSOLVED = "if (difficulty > 0 && !Cookies.isSolution(cookie, difficulty, solution)) { "
        + "return failAfterWork(UNSOLVED, cost); }";
    private static final String FORGED = "if (!genuine) { return failAfterWork(FORGED, cost); }";
    private static final String REPLAYED = "if (now.used.contains(place, cookie)) { return failAfterWork(REPLAYED, cost); }";
    private static final String FIRST = "the first one that fails decides";
    private static final String WITHOUT_CHECKS = "if there is a half-open entry for the client and the port with an equal "
        + "cookie, the entry is removed and the port is connected at once, without the checks that follow";
    private static final String DIGESTS = "each digest that is computed costs one unit of work (one for the present key, and one "
        + "more for the previous key, if it is tried)";
    private static final String FORGOTTEN = "all used cookies whose age is then greater than 1 are forgotten when an epoch begins.";

    private SentencesOfAccepting() {
    }

    static List<Sentence> all() {
        return List.of(
            Sentence.described(FIRST, SentencesOfAccepting::connectedComesBeforeFull)
                .brokenBy(CONNECTED + " " + FULL, FULL + " " + CONNECTED),
            Sentence.described(FIRST, SentencesOfAccepting::fullComesBeforeTheEntry)
                .brokenBy(FULL + " " + ENTRY, ENTRY + " " + FULL),
            Sentence.described(FIRST, SentencesOfAccepting::fullComesBeforeTheOthers)
                .brokenBy(FULL + " " + ENTRY + " return acceptByCookie(place, cookie, solution);",
                    ENTRY + " if (!now.ports.isFull()) { return acceptByCookie(place, cookie, solution); } "
                    + "int code = acceptByCookie(place, cookie, solution); return code < 0 ? code : fail(FULL);"),
            Sentence.described(FIRST, SentencesOfAccepting::staleComesBeforeUnsolved)
                .brokenBy(STALE + " " + COST + " " + UNSOLVED, COST + " " + UNSOLVED + " " + STALE),
            Sentence.described(FIRST, SentencesOfAccepting::unsolvedComesBeforeForged)
                .brokenBy(UNSOLVED, "if (!Cookies.isMarkedWith(now.presentKey, place, cookie)) { "
                    + "return failAfterWork(FORGED, cost); } " + UNSOLVED),
            Sentence.described(FIRST, SentencesOfAccepting::unsolvedComesBeforeReplayed)
                .brokenBy(UNSOLVED, REPLAYED + " " + UNSOLVED),
            Sentence.described(FIRST, SentencesOfAccepting::forgedComesBeforeReplayed)
                .brokenBy(FORGED + " " + REPLAYED, REPLAYED + " " + FORGED),
            Sentence.described("the port of the client is not connected yet, otherwise the result is CONNECTED",
                    SentencesOfAccepting::aConnectedPortIsRefused)
                .brokenBy(CONNECTED + " " + FULL, FULL)
                .brokenBy(CONNECTED + " " + FULL, "if (now.ports.countOf(client) > 0) { return fail(CONNECTED); } " + FULL),
            Sentence.described("there are fewer than 10 connections, otherwise FULL", SentencesOfAccepting::tenConnections)
                .brokenBy("MAX_CONNECTIONS = 10", "MAX_CONNECTIONS = 9")
                .brokenBy("MAX_CONNECTIONS = 10", "MAX_CONNECTIONS = 11"),
            Sentence.described(WITHOUT_CHECKS, SentencesOfAccepting::entryPassesThePuzzleBy)
                .brokenBy("if (now.entries.holds(place, cookie)) {",
                    "if (now.entries.holds(place, cookie) && (now.currentDifficulty() == 0 || "
                    + "Cookies.isSolution(cookie, now.currentDifficulty(), solution))) {"),
            Sentence.described(WITHOUT_CHECKS, SentencesOfAccepting::entryPassesTheKeysBy)
                .brokenBy("if (now.entries.holds(place, cookie)) {",
                    "if (now.entries.holds(place, cookie) && Cookies.isMarkedWith(now.presentKey, place, cookie)) {"),
            Sentence.described(WITHOUT_CHECKS, SentencesOfAccepting::entryPassesTheReplayBy)
                .brokenBy("if (now.entries.holds(place, cookie)) {",
                    "if (now.entries.holds(place, cookie) && !now.used.contains(place, cookie)) {"),
            Sentence.described(WITHOUT_CHECKS, SentencesOfAccepting::entryOverTheEndOfAnEpoch)
                .brokenBy("if (now.entries.holds(place, cookie)) {",
                    "if (now.entries.holds(place, cookie) && Cookies.age(cookie, now.currentEpoch()) == 0) {"),
            Sentence.described(WITHOUT_CHECKS, SentencesOfAccepting::theEntryIsRemoved)
                .brokenBy("history.save(now); now.entries.drop(place);", "history.save(now);")
                .brokenBy("history.save(now); now.entries.drop(place);", "history.save(now); now.entries.count--;")
                .brokenBy("history.save(now); now.entries.drop(place);", "history.save(now); now.entries.count = 0;"),
            Sentence.described("with an equal cookie", SentencesOfAccepting::anotherCookieIsChecked)
                .brokenBy("return index >= 0 && cookies[index] == cookie;", "return index >= 0;"),
            Sentence.described("a half-open entry for the client and the port", SentencesOfAccepting::anotherPlacesEntryIsNone)
                .brokenBy("int index = find(place); return index >= 0 && cookies[index] == cookie;",
                    "for (int i = 0; i < count; i++) { if (cookies[i] == cookie) { return true; } } return false;"),
            Sentence.described("the age of the cookie, (epoch - stamp) modulo 32, is 0 or 1, otherwise STALE",
                    SentencesOfAccepting::agesOfEveryStamp)
                .brokenBy("FRESH_AGE = 1", "FRESH_AGE = 0")
                .brokenBy("FRESH_AGE = 1", "FRESH_AGE = 2"),
            Sentence.described("the age of the cookie, (epoch - stamp) modulo 32, is 0 or 1, otherwise STALE",
                    SentencesOfAccepting::agesWrapAround)
                .brokenBy("if (Cookies.age(cookie, now.currentEpoch()) > FRESH_AGE)",
                    "if (now.currentEpoch() % STAMPS - Cookies.stampOf(cookie) > FRESH_AGE)")
                .brokenBy("if (Cookies.age(cookie, now.currentEpoch()) > FRESH_AGE)",
                    "if (Cookies.age(cookie, now.currentEpoch()) > FRESH_AGE || now.currentEpoch() == 0 && cookie >= 31 * 32768)"),
            Sentence.described("if the difficulty is greater than 0, the solution is a solution of the cookie for the difficulty, "
                    + "otherwise UNSOLVED", SentencesOfAccepting::puzzleFromLoad8On)
                .brokenBy("if (difficulty > 0 && !Cookies", "if (difficulty > 1 && !Cookies")
                .brokenBy("Cookies.isSolution(cookie, difficulty, solution)) { return failAfterWork",
                    "Cookies.isSolution(cookie, difficulty + 1, solution)) { return failAfterWork")
                .brokenBy("Cookies.isSolution(cookie, difficulty, solution)) { return failAfterWork",
                    "Cookies.isSolution(cookie, difficulty - 1, solution)) { return failAfterWork"),
            Sentence.described("this check costs one unit of work", SentencesOfAccepting::thePuzzleCostsOne)
                .brokenBy("int cost = difficulty > 0 ? 1 : 0;", "int cost = 0;")
                .brokenBy("int cost = difficulty > 0 ? 1 : 0;", "int cost = 1;")
                .brokenBy("int cost = difficulty > 0 ? 1 : 0;", "int cost = difficulty;"),
            Sentence.described("if it is not, and there is a previous key, it is the digest with the previous key; otherwise FORGED",
                    SentencesOfAccepting::aForgedCookieIsRefused)
                .brokenBy(FORGED, "")
                .brokenBy("boolean genuine = Cookies.isMarkedWith(now.presentKey, place, cookie);",
                    "boolean genuine = Cookies.isMarkedWith(now.presentKey, place, cookie) || now.previousKey == NONE;"),
            Sentence.described("if it is not, and there is a previous key, it is the digest with the previous key; otherwise FORGED",
                    SentencesOfAccepting::thePreviousKeyMayBeTheLeast)
                .brokenBy("now.previousKey != NONE", "now.previousKey > 0"),
            Sentence.described(DIGESTS, SentencesOfAccepting::oneDigestOrTwo)
                .brokenBy("isMarkedWith(now.presentKey, place, cookie); cost++;", "isMarkedWith(now.presentKey, place, cookie);")
                .brokenBy("isMarkedWith(now.previousKey, place, cookie); cost++;", "isMarkedWith(now.previousKey, place, cookie);")
                .brokenBy("if (!genuine && now.previousKey != NONE) {", "if (!genuine) {")
                .brokenBy("if (!genuine && now.previousKey != NONE) {",
                    "if (!genuine && now.previousKey != NONE && now.previousKey != now.presentKey) {"),
            Sentence.described("the cookie has not been used before for this client and port, as far as the server remembers it, "
                    + "otherwise REPLAYED", SentencesOfAccepting::aSecondUseIsRefused)
                .brokenBy(REPLAYED, ""),
            Sentence.described("used before for this client and port", SentencesOfAccepting::aUseByAnotherPlaceIsNone)
                .brokenBy("if (places[i] == place && cookies[i] == cookie)", "if (cookies[i] == cookie)"),
            Sentence.described("as far as the server remembers it", SentencesOfAccepting::aForgottenUseIsNone)
                .brokenBy("MAX_USED = 20", "MAX_USED = 40"),
            Sentence.described("A port that was connected by step (3) is not remembered as used.",
                    SentencesOfAccepting::aUseByEntryIsNotRemembered)
                .brokenBy("history.save(now); now.entries.drop(place);",
                    "history.save(now); now.entries.drop(place); now.used.add(place, cookie);"),
            Sentence.described("The server remembers at most 20 used cookies; when a 21st one comes, the oldest one is forgotten.",
                    SentencesOfAccepting::twentyAreRemembered)
                .brokenBy("MAX_USED = 20", "MAX_USED = 19")
                .brokenBy("MAX_USED = 20", "MAX_USED = 21")
                .brokenBy("for (int i = 1; i < MAX_USED; i++) {", "for (int i = 2; i < MAX_USED; i++) {")
                .brokenBy("if (count >= MAX_USED) { forgetOldest(); }", "if (count >= MAX_USED) { return; }")
                .brokenBy("if (count >= MAX_USED) { forgetOldest(); }", "if (count >= MAX_USED) { count = 0; }"),
            Sentence.described(FORGOTTEN, SentencesOfAccepting::age1IsKeptAndAge2Forgotten)
                .brokenBy("Cookies.age(cookies[i], epoch) <= FRESH_AGE", "Cookies.age(cookies[i], epoch) <= FRESH_AGE + 1")
                .brokenBy("Cookies.age(cookies[i], epoch) <= FRESH_AGE", "Cookies.age(cookies[i], epoch) < FRESH_AGE")
                .brokenBy("used.forgetStale(currentEpoch());", "")
                .brokenBy("used.forgetStale(currentEpoch());", "used.forgetStale(tick / 63);"),
            Sentence.described(FORGOTTEN, SentencesOfAccepting::forgottenOverTheWrapAround)
                .brokenBy("Cookies.age(cookies[i], epoch) <= FRESH_AGE", "epoch - Cookies.stampOf(cookies[i]) <= FRESH_AGE")
                .brokenBy("Cookies.age(cookies[i], epoch) <= FRESH_AGE",
                    "epoch % STAMPS - Cookies.stampOf(cookies[i]) <= FRESH_AGE"),
            Sentence.described(FORGOTTEN, SentencesOfAccepting::theOthersStayInTheirOrder)
                .brokenBy("places[kept] = places[i]; cookies[kept] = cookies[i];", "")
                .brokenBy("places[kept] = places[i]; cookies[kept] = cookies[i];", "cookies[kept] = cookies[i];")
                .brokenBy("if (Cookies.age(cookies[i], epoch) <= FRESH_AGE) { places[kept]",
                    "if (Cookies.age(cookies[i], epoch) > FRESH_AGE) { count = kept; return; } else { places[kept]"),
            Sentence.described("A connection has the segment size with the index that is the option of its cookie.",
                    SentencesOfAccepting::leastAndGreatestOption)
                .brokenBy("codes[place] = 1 + option;", "codes[place] = Math.max(1 + option, 2);")
                .brokenBy("codes[place] = 1 + option;", "codes[place] = Math.min(1 + option, 7);"),
            Sentence.promised(5, "`client`: 0 to 15", SentencesOfAccepting::rangeOfClient)
                .brokenBy(RANGE, RANGE.replace("!isPlace(client, port)", "client < 0 || !isPlace(0, port)"))
                .brokenBy(RANGE, RANGE.replace("!isPlace(client, port)", "client >= CLIENTS || !isPlace(0, port)")),
            Sentence.promised(5, "`port`: 0 to 7", SentencesOfAccepting::rangeOfPort)
                .brokenBy(RANGE, RANGE.replace("!isPlace(client, port)", "!isClient(client) || port < 0"))
                .brokenBy(RANGE, RANGE.replace("!isPlace(client, port)", "!isClient(client) || port >= PORTS")),
            Sentence.promised(5, "`cookie`: 0 to 1048575", SentencesOfAccepting::rangeOfCookie)
                .brokenBy(RANGE, RANGE.replace("!isCookie(cookie)", "cookie < 0"))
                .brokenBy(RANGE, RANGE.replace("!isCookie(cookie)", "cookie >= COOKIES"))
                .brokenBy(RANGE, RANGE.replace("!isCookie(cookie)", "!isCookie(cookie + 1)"))
                .brokenBy(RANGE, RANGE.replace("!isCookie(cookie)", "!isCookie(cookie - 1)")),
            Sentence.promised(5, "`solution`: 0 to 9999", SentencesOfAccepting::rangeOfSolution)
                .brokenRange("isWithin(solution, ", "0", "SOLUTIONS - 1"),
            Sentence.promised(5, "OUT_OF_RANGE if an argument is out of range", SentencesOfAccepting::allArgumentsWrong)
                .brokenBy(RANGE + " { return fail(OUT_OF_RANGE); }", RANGE + " { return OUT_OF_RANGE; }")
                .brokenBy(RANGE + " { return fail(OUT_OF_RANGE); }", RANGE + " { return failAfterWork(OUT_OF_RANGE, 1); }"),
            Sentence.promised(5, "CONNECTED, FULL, STALE, UNSOLVED, FORGED or REPLAYED if one of the checks of accepting fails.",
                    SentencesOfAccepting::failedChecksLeaveNoTrace)
                .brokenBy(CONNECTED + " " + FULL, "if (now.ports.isConnected(place)) { history.save(now); "
                    + "return fail(CONNECTED); } " + FULL)
                .brokenBy(FULL, "if (now.ports.isFull()) { now.entries.drop(place); return fail(FULL); }")
                .brokenBy(STALE, STALE.replace("return fail(STALE)", "return failAfterWork(STALE, 1)"))
                .brokenBy(UNSOLVED, UNSOLVED.replace("{ return", "{ history.save(now); return"))
                .brokenBy(FORGED, FORGED.replace("{ return", "{ now.entries.drop(place); return"))
                .brokenBy(REPLAYED, REPLAYED.replace("{ return", "{ now.used.add(place, cookie); return")),
            Sentence.promised(11, "Returns the number of used cookies, 0 to 20.", SentencesOfAccepting::noUsedCookieAndTwenty)
                .brokenBy("public int remembered() { return now.used.count;",
                    "public int remembered() { return Math.min(now.used.count, 19);")
                .brokenBy("public int remembered() { return now.used.count;",
                    "public int remembered() { return Math.max(now.used.count, 1);")
                .brokenBy("MAX_USED = 20", "MAX_USED = 21"),
            Sentence.promised(18, "Returns the number of units of work.", SentencesOfAccepting::noWorkAndTheMostOfOneCall)
                .brokenBy("public int work() { return now.workDone;", "public int work() { return Math.min(now.workDone, 2);")
                .brokenBy("workDone = 0;", "workDone = 1;")
                .brokenBy("now.workDone += cost; now.used", "now.workDone += 1; now.used"));
    }

    private static CookieServer full() {
        CookieServer s = Given.connected(10);
        Expect.that("full", s.connections(), 10);
        return s;
    }

    private static void connectedComesBeforeFull() {
        CookieServer s = full();
        Expect.refused("a connected port of a full server", s, -3, () -> s.accept(3, 0, 0, 0));
    }

    private static void fullComesBeforeTheEntry() {
        CookieServer s = full();
        int cookie = s.open(12, 0, 64);
        Expect.refused("an entry of a full server", s, -4, () -> s.accept(12, 0, cookie, 0));
        Expect.that("the entry is still there", s.entryAge(12, 0), 0);
    }

    private static void fullComesBeforeTheOthers() {
        CookieServer s = full();
        int epoch = s.epoch();
        Expect.refused("a stale cookie", s, -4, () -> s.accept(12, 0, Expect.cookie(1, 12, 0, 0, epoch + 5), 0));
        int forged = Expect.cookie(1, 12, 0, 0, epoch) ^ 1;
        Expect.refused("a forged cookie", s, -4, () -> s.accept(12, 0, forged, 0));
        Expect.flood(s, 15, 0, 8);
        Expect.refused("an unsolved cookie", s, -4, () -> s.accept(12, 0, forged, Expect.noSolution(forged, 1)));
    }

    private static void staleComesBeforeUnsolved() {
        CookieServer s = Given.loaded(8);
        int cookie = Expect.cookie(1, 0, 0, 0, 2);
        Expect.refused("stale and unsolved", s, -5, () -> s.accept(0, 0, cookie, Expect.noSolution(cookie, 1)));
    }

    private static void unsolvedComesBeforeForged() {
        CookieServer s = Given.loaded(8);
        int cookie = Expect.cookie(1, 0, 0, 0, 0) ^ 1;
        Expect.refusedAfterWork("unsolved and forged", s, -6, 1, () -> s.accept(0, 0, cookie, Expect.noSolution(cookie, 1)));
    }

    private static void unsolvedComesBeforeReplayed() {
        CookieServer s = new CookieServer();
        int cookie = Expect.cookie(1, 0, 0, 0, 0);
        s.accept(0, 0, cookie, 0);
        s.close(0, 0);
        Expect.flood(s, 15, 7, 8);
        Expect.refusedAfterWork("unsolved and replayed", s, -6, 1, () -> s.accept(0, 0, cookie, Expect.noSolution(cookie, 1)));
    }

    private static void forgedComesBeforeReplayed() {
        CookieServer s = new CookieServer();
        int cookie = Expect.cookie(1, 0, 0, 0, 0);
        s.accept(0, 0, cookie, 0);
        s.close(0, 0);
        s.rotateKey(2);
        s.rotateKey(3);
        Expect.refusedAfterWork("forged by now and replayed", s, -7, 2, () -> s.accept(0, 0, cookie, 0));
        Expect.that("though it is remembered", s.remembered(), 1);
    }

    private static void aConnectedPortIsRefused() {
        CookieServer s = Given.busy();
        Expect.refused("a port connected by its entry", s, -3, () -> s.accept(1, 1, 0, 0));
        Expect.refused("a port connected by its cookie", s, -3, () -> s.accept(2, 2, Given.USED, 0));
        Expect.that("another port", s.accept(1, 2, Expect.cookie(Given.KEY, 1, 2, 0, Given.EPOCH), 0), 64);
        s.close(1, 1);
        Expect.that("a closed port", s.accept(1, 1, Expect.cookie(Given.KEY, 1, 1, 3, Given.EPOCH), 0), 536);
    }

    private static void tenConnections() {
        CookieServer s = Given.connected(9);
        int cookie = s.open(9, 0, 64);
        Expect.that("the tenth", s.accept(9, 0, cookie, 0), 64);
        int eleventh = Expect.cookie(1, 0, 1, 0, s.epoch());
        Expect.that("the eleventh", s.accept(0, 1, eleventh, 0), -4);
        s.close(4, 0);
        Expect.that("when there is room again", s.accept(0, 1, eleventh, 0), 64);
        Expect.that("ten", s.connections(), 10);
    }

    private static void entryPassesThePuzzleBy() {
        CookieServer s = new CookieServer();
        int cookie = s.open(0, 0, 64);
        Expect.flood(s, 15, 7, 50);
        Expect.that("difficulty", s.difficulty(), 6);
        Expect.that("without a solution", s.accept(0, 0, cookie, Expect.noSolution(cookie, 6)), 64);
        Expect.that("without work", s.work(), 0);
    }

    private static void entryPassesTheKeysBy() {
        CookieServer s = new CookieServer();
        int cookie = s.open(0, 0, 64);
        s.rotateKey(2);
        s.rotateKey(3);
        Expect.that("with a key that is gone", s.accept(0, 0, cookie, 0), 64);
        Expect.that("without work", s.work(), 0);
    }

    private static void entryPassesTheReplayBy() {
        CookieServer s = new CookieServer();
        int cookie = Expect.cookie(1, 0, 0, 0, 0);
        s.accept(0, 0, cookie, 0);
        s.close(0, 0);
        Expect.that("the same cookie again", s.open(0, 0, 64), cookie);
        Expect.that("by its entry", s.accept(0, 0, cookie, 0), 64);
        Expect.that("one digest in all", s.work(), 1);
    }

    private static void entryOverTheEndOfAnEpoch() {
        CookieServer s = new CookieServer();
        s.advance(63);
        int cookie = s.open(0, 0, 64);
        s.advance(1);
        Expect.that("a cookie of the last epoch", s.accept(0, 0, cookie, 0), 64);
        Expect.that("without work", s.work(), 0);
    }

    private static void theEntryIsRemoved() {
        CookieServer s = new CookieServer();
        int first = s.open(0, 0, 64);
        s.advance(1);
        s.open(1, 0, 64);
        Expect.that("accept", s.accept(0, 0, first, 0), 64);
        Expect.that("one entry is left", s.halfOpen(), 1);
        Expect.that("not this one", s.entryAge(0, 0), -1);
        Expect.that("but the other", s.entryAge(1, 0), 0);
    }

    private static void anotherCookieIsChecked() {
        CookieServer s = new CookieServer();
        int cookie = s.open(0, 0, 64);
        Expect.refusedAfterWork("a cookie with another mark", s, -7, 1, () -> s.accept(0, 0, cookie ^ 1, 0));
        Expect.that("a genuine cookie with another option", s.accept(0, 0, Expect.cookie(1, 0, 0, 1, 0), 0), 128);
        Expect.that("two digests", s.work(), 2);
        Expect.that("the entry stays", s.entryAge(0, 0), 0);
    }

    private static void anotherPlacesEntryIsNone() {
        CookieServer s = new CookieServer();
        int cookie = s.open(4, 4, 64);
        Expect.refusedAfterWork("another port", s, -7, 1, () -> s.accept(4, 5, cookie, 0));
        Expect.refusedAfterWork("another client", s, -7, 1, () -> s.accept(5, 4, cookie, 0));
    }

    private static void agesOfEveryStamp() {
        for (int stamp = 0; stamp < 32; stamp++) {
            CookieServer s = new CookieServer();
            s.advance(1000);
            s.advance(344);
            Expect.that("epoch", s.epoch(), 21);
            boolean fresh = stamp == 21 || stamp == 20;
            int cookie = Expect.cookie(1, 0, 0, 0, stamp);
            Expect.that("stamp " + stamp + " in epoch 21", s.accept(0, 0, cookie, 0), fresh ? 64 : -5);
            Expect.that("work", s.work(), fresh ? 1 : 0);
        }
    }

    private static void agesWrapAround() {
        for (int epoch : new int[] {0, 1, 31, 32, 33}) {
            for (int age : new int[] {0, 1, 2, 30, 31}) {
                CookieServer s = new CookieServer();
                for (int i = 0; i < epoch; i++) {
                    s.advance(64);
                }
                int cookie = Expect.cookie(1, 0, 0, 0, epoch + 32 - age);
                Expect.that("age " + age + " in epoch " + epoch, s.accept(0, 0, cookie, 0), age <= 1 ? 64 : -5);
            }
        }
    }

    private static void puzzleFromLoad8On() {
        int cookie = Expect.cookie(1, 0, 0, 0, 0);
        Expect.that("any number with load 7", Given.loaded(7).accept(0, 0, cookie, Expect.noSolution(cookie, 1)), 64);
        for (int d = 1; d <= 6; d++) {
            int just = 0;
            while (Expect.digestOf(0, cookie, just) % (1 << d) != 1 << (d - 1)) {
                just++;
            }
            int enough = 0;
            while (Expect.digestOf(0, cookie, enough) % (2 << d) != 1 << d) {
                enough++;
            }
            Expect.that("too weak for difficulty " + d, Given.loaded(8 * d).accept(0, 0, cookie, just), -6);
            Expect.that("enough for difficulty " + d, Given.loaded(8 * d).accept(0, 0, cookie, enough), 64);
        }
    }

    private static void thePuzzleCostsOne() {
        int cookie = Expect.cookie(1, 0, 0, 0, 0);
        for (int load : new int[] {0, 7, 8, 16, 48}) {
            CookieServer s = Given.loaded(load);
            int d = s.difficulty();
            if (d > 0) {
                Expect.refusedAfterWork("unsolved", s, -6, 1, () -> s.accept(0, 0, cookie, Expect.noSolution(cookie, d)));
            }
            int before = s.work();
            Expect.that("solved", s.accept(0, 0, cookie, s.solve(cookie, d, 0)), 64);
            Expect.that("work of puzzle and digest with load " + load, s.work() - before, d > 0 ? 2 : 1);
        }
    }

    private static void aForgedCookieIsRefused() {
        CookieServer s = new CookieServer();
        int cookie = Expect.cookie(1, 3, 3, 3, 0);
        Expect.that("another mark", s.accept(3, 3, cookie ^ 1, 0), -7);
        Expect.that("another option", s.accept(3, 3, cookie ^ 4096, 0), -7);
        Expect.that("another stamp", s.accept(3, 3, cookie + 31 * 32768, 0), -7);
        Expect.that("another client", s.accept(2, 3, cookie, 0), -7);
        Expect.that("another port", s.accept(3, 2, cookie, 0), -7);
        s.rotateKey(50);
        Expect.that("with a previous key too", s.accept(3, 3, cookie ^ 1, 0), -7);
        Expect.that("no connection", s.connections(), 0);
    }

    private static void thePreviousKeyMayBeTheLeast() {
        CookieServer s = new CookieServer();
        s.rotateKey(0);
        s.rotateKey(7);
        Expect.that("by the previous key 0", s.accept(0, 0, Expect.cookie(0, 0, 0, 0, 0), 0), 64);
        Expect.that("two digests", s.work(), 2);
    }

    private static void oneDigestOrTwo() {
        CookieServer s = new CookieServer();
        int cookie = Expect.cookie(1, 0, 0, 0, 0);
        Expect.refusedAfterWork("no previous key", s, -7, 1, () -> s.accept(0, 0, cookie ^ 1, 0));
        s.rotateKey(1);
        Expect.refusedAfterWork("an equal previous key", s, -7, 2, () -> s.accept(0, 0, cookie ^ 1, 0));
        s.rotateKey(2);
        Expect.that("by the previous key", s.accept(0, 0, cookie, 0), 64);
        Expect.that("two digests", s.work(), 5);
        Expect.that("by the present key", s.accept(0, 1, Expect.cookie(2, 0, 1, 0, 0), 0), 64);
        Expect.that("one digest", s.work(), 6);
    }

    private static void aSecondUseIsRefused() {
        CookieServer s = Given.busy();
        s.close(2, 2);
        Expect.refusedAfterWork("a second use", s, -8, 1, () -> s.accept(2, 2, Given.USED, 0));
        Expect.refusedAfterWork("a third use", s, -8, 1, () -> s.accept(2, 2, Given.USED, 0));
        s.rotateKey(99);
        Expect.refusedAfterWork("by the previous key", s, -8, 2, () -> s.accept(2, 2, Given.USED, 0));
    }

    // Under two keys one number can be the cookie of two places.
    private static void aUseByAnotherPlaceIsNone() {
        int cookie = Expect.cookie(1, 0, 0, 0, 0);
        for (int place : new int[] {1, 8}) {
            int key = 0;
            while (Expect.cookie(key, place / 8, place % 8, 0, 0) != cookie) {
                key++;
            }
            CookieServer s = new CookieServer();
            s.rotateKey(key);
            Expect.that("used by (0, 0)", s.accept(0, 0, cookie, 0), 64);
            Expect.that("the same number for place " + place, s.accept(place / 8, place % 8, cookie, 0), 64);
            Expect.that("both are remembered", s.remembered(), 2);
        }
    }

    private static void aForgottenUseIsNone() {
        CookieServer s = new CookieServer();
        use(s, 0, 21);
        Expect.that("the first is forgotten", s.accept(0, 0, Expect.cookie(1, 0, 0, 0, 0), 0), 64);
        Expect.that("the third is not", s.accept(2, 0, Expect.cookie(1, 2, 0, 0, 0), 0), -8);
    }

    // Accepts the cookies of option 0 of places in an order of their own, and closes them again.
    private static void use(CookieServer s, int from, int to) {
        for (int i = from; i < to; i++) {
            int cookie = Expect.cookie(1, i % 16, i / 16, 0, 0);
            Expect.that("use " + i, s.accept(i % 16, i / 16, cookie, 0), 64);
            s.close(i % 16, i / 16);
        }
    }

    private static boolean isRemembered(CookieServer s, int i) {
        return s.accept(i % 16, i / 16, Expect.cookie(1, i % 16, i / 16, 0, 0), 0) == -8;
    }

    private static void aUseByEntryIsNotRemembered() {
        CookieServer s = new CookieServer();
        int cookie = s.open(0, 0, 64);
        s.accept(0, 0, cookie, 0);
        Expect.that("nothing is remembered", s.remembered(), 0);
        s.close(0, 0);
        Expect.that("so the cookie is accepted once more", s.accept(0, 0, cookie, 0), 64);
        Expect.that("now it is remembered", s.remembered(), 1);
        s.close(0, 0);
        Expect.that("and refused", s.accept(0, 0, cookie, 0), -8);
    }

    private static void twentyAreRemembered() {
        CookieServer s = new CookieServer();
        use(s, 0, 20);
        Expect.that("twenty", s.remembered(), 20);
        for (int i = 0; i < 20; i++) {
            Expect.holds("use " + i + " is remembered", isRemembered(s, i));
        }
        use(s, 20, 21);
        Expect.that("still twenty", s.remembered(), 20);
        for (int i = 1; i < 21; i++) {
            Expect.holds("use " + i + " is remembered", isRemembered(s, i));
        }
        Expect.holds("the oldest is not", !isRemembered(s, 0));
        Expect.holds("the next oldest went for it", !isRemembered(s, 1));
        Expect.holds("the third stays", !isRemembered(s, 2) && s.remembered() == 20);
    }

    private static void age1IsKeptAndAge2Forgotten() {
        CookieServer s = new CookieServer();
        use(s, 0, 1);
        s.advance(63);
        Expect.that("age 0 at the epoch's end", s.remembered(), 1);
        s.advance(1);
        Expect.that("age 1 at the next epoch's beginning", s.remembered(), 1);
        Expect.holds("it is refused", isRemembered(s, 0));
        s.advance(63);
        Expect.that("age 1 at the next epoch's end", s.remembered(), 1);
        s.advance(1);
        Expect.that("age 2", s.remembered(), 0);
        CookieServer late = new CookieServer();
        use(late, 0, 1);
        late.advance(1000);
        Expect.that("after a long pause", late.remembered(), 0);
    }

    private static void forgottenOverTheWrapAround() {
        CookieServer s = new CookieServer();
        for (int i = 0; i < 31; i++) {
            s.advance(64);
        }
        Expect.that("stamp 30 in epoch 31", s.accept(0, 0, Expect.cookie(1, 0, 0, 0, 30), 0), 64);
        Expect.that("stamp 31 in epoch 31", s.accept(0, 1, Expect.cookie(1, 0, 1, 0, 31), 0), 64);
        s.advance(64);
        Expect.that("in epoch 32 stamp 31 is kept", s.remembered(), 1);
        Expect.that("stamp 0 in epoch 32", s.accept(0, 2, Expect.cookie(1, 0, 2, 0, 32), 0), 64);
        s.advance(64);
        Expect.that("in epoch 33 stamp 0 is kept", s.remembered(), 1);
        s.advance(64);
        Expect.that("in epoch 34 none", s.remembered(), 0);
        CookieServer first = new CookieServer();
        Expect.that("stamp 31 in epoch 0", first.accept(0, 0, Expect.cookie(1, 0, 0, 0, 31), 0), 64);
        first.advance(63);
        Expect.that("is kept in epoch 0", first.remembered(), 1);
        first.advance(1);
        Expect.that("is forgotten in epoch 1", first.remembered(), 0);
    }

    private static void theOthersStayInTheirOrder() {
        CookieServer s = new CookieServer();
        s.advance(64);
        int[] epochs = {1, 0, 1, 0, 1};
        for (int i = 0; i < 5; i++) {
            Expect.that("use " + i, s.accept(i, 0, Expect.cookie(1, i, 0, 0, epochs[i]), 0), 64);
            s.close(i, 0);
        }
        s.advance(64);
        Expect.that("three are left", s.remembered(), 3);
        for (int i = 0; i < 5; i += 2) {
            Expect.that("use " + i + " is refused", s.accept(i, 0, Expect.cookie(1, i, 0, 0, 1), 0), -8);
        }
    }

    private static void leastAndGreatestOption() {
        CookieServer s = new CookieServer();
        Expect.that("option 0", s.accept(0, 0, Expect.cookie(1, 0, 0, 0, 0), 0), 64);
        Expect.that("option 7", s.accept(15, 7, Expect.cookie(1, 15, 7, 7, 0), 0), 1460);
        Expect.that("size of option 0", s.segmentSize(0, 0), 64);
        Expect.that("size of option 7", s.segmentSize(15, 7), 1460);
        s.open(5, 5, 1460);
        Expect.that("not the option of the entry", s.accept(5, 5, Expect.cookie(1, 5, 5, 0, 0), 0), 64);
        Expect.that("but of the cookie", s.segmentSize(5, 5), 64);
    }

    private static void rangeOfClient() {
        Expect.range("client of accept", 0, 15, (s, client) -> s.accept(client, 0, 0, 0));
    }

    private static void rangeOfPort() {
        Expect.range("port of accept", 0, 7, (s, port) -> s.accept(0, port, 0, 0));
    }

    private static void rangeOfCookie() {
        Expect.range("cookie of accept", 0, 1048575, (s, cookie) -> s.accept(0, 0, cookie, 0));
    }

    private static void rangeOfSolution() {
        Expect.range("solution of accept", 0, 9999, (s, solution) -> s.accept(0, 0, 0, solution));
    }

    private static void allArgumentsWrong() {
        CookieServer s = Given.busy();
        Expect.refused("accept", s, -2, () -> s.accept(-1, -1, -1, -1));
        Expect.refused("accept", s, -2, () -> s.accept(16, 8, 1048576, 10000));
        Expect.refused("accept of a connected port", s, -2, () -> s.accept(1, 1, 0, -1));
    }

    private static void failedChecksLeaveNoTrace() {
        CookieServer s = Given.busy();
        int cookie = Expect.cookie(Given.KEY, 3, 3, 0, Given.EPOCH);
        Expect.refused("CONNECTED", s, -3, () -> s.accept(1, 1, cookie, 0));
        Expect.refused("STALE", s, -5, () -> s.accept(3, 3, cookie + 5 * 32768, 0));
        Expect.refusedAfterWork("FORGED", s, -7, 2, () -> s.accept(3, 3, cookie ^ 1, 0));
        Expect.flood(s, 15, 7, 8);
        Expect.refusedAfterWork("UNSOLVED", s, -6, 1, () -> s.accept(3, 3, cookie, Expect.noSolution(cookie, 1)));
        s.close(2, 2);
        int solution = s.solve(Given.USED, 1, 0);
        Expect.refusedAfterWork("REPLAYED", s, -8, 2, () -> s.accept(2, 2, Given.USED, solution));
        CookieServer full = full();
        int waiting = full.open(12, 0, 64);
        Expect.refused("FULL", full, -4, () -> full.accept(12, 0, waiting, 0));
    }

    private static void noUsedCookieAndTwenty() {
        CookieServer s = new CookieServer();
        Expect.that("none", s.remembered(), 0);
        for (int i = 0; i < 25; i++) {
            use(s, i, i + 1);
            Expect.that("after use " + (i + 1), s.remembered(), Math.min(i + 1, 20));
        }
    }

    private static void noWorkAndTheMostOfOneCall() {
        CookieServer s = new CookieServer();
        Expect.that("none", s.work(), 0);
        s.rotateKey(2);
        Expect.flood(s, 15, 7, 8);
        int cookie = Expect.cookie(1, 0, 0, 0, 0);
        Expect.that("puzzle and both keys", s.accept(0, 0, cookie, s.solve(cookie, 1, 0)), 64);
        Expect.that("three units", s.work(), 3);
    }
}
