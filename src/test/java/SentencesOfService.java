import java.util.List;

/** Boundary sentences on service; promises 19 to 24. */
final class SentencesOfService {
    private static final String REQUEST = "if (!isClient(client) || !isWithin(size, 1, MAX_SIZE)) { return fail(OUT_OF_RANGE); }";
    private static final String QUEUE_FULL = "if (now.service.lengths[client] >= MAX_QUEUE) { return fail(FULL); }";
    private static final String NO_PORT = "if (now.ports.countOf(client) == 0) { return fail(NOT_CONNECTED); }";
    private static final String BUDGET = "if (size > rest) { return done; }";
    private static final String ENDS = "if the size is greater than the rest of the budget, serving ends at once (the pointer stays)";
    private static final String EMPTY = "If its queue is empty, its credit becomes 0 and the pointer moves on to the next client "
        + "(after client 15 comes client 0).";
    private static final String NO_CLIENT = "OUT_OF_RANGE if there is no such client";

    private SentencesOfService() {
    }

    static List<Sentence> all() {
        return List.of(
            Sentence.described("a request has a size, 1 to 9", SentencesOfService::leastAndGreatestSize)
                .brokenRange("isWithin(size, ", "1", "MAX_SIZE"),
            Sentence.described("(at most 8 in a queue)", SentencesOfService::eightInAQueue)
                .brokenBy("MAX_QUEUE = 8", "MAX_QUEUE = 7")
                .brokenBy("MAX_QUEUE = 8", "MAX_QUEUE = 9"),
            Sentence.described("Each client has a credit, initially 0.", SentencesOfService::noCreditAtFirst)
                .brokenBy("credits = new int[CLIENTS];", "credits = new int[CLIENTS]; credits[0] = 1;")
                .brokenBy("credits = new int[CLIENTS];", "credits = new int[CLIENTS]; credits[15] = 1;"),
            Sentence.described("The server has a pointer to a client, initially client 0.", SentencesOfService::pointerBeginsAtClient0)
                .brokenBy("pointer = 0; granted = false;", "pointer = 1; granted = false;")
                .brokenBy("pointer = 0; granted = false;", "pointer = 15; granted = false;")
                .brokenBy("pointer = 0; granted = false;", "pointer = 0; granted = true;"),
            Sentence.described("As long as some queue is not empty", SentencesOfService::emptyQueuesMoveNothing)
                .brokenBy("visit < MAX_VISITS && waiting > 0;", "visit < MAX_VISITS && (waiting > 0 || visit == 0);"),
            Sentence.described("As long as some queue is not empty", SentencesOfService::asManyRoundsAsNeeded)
                .brokenBy("visit < MAX_VISITS && waiting > 0;", "visit < CLIENTS && waiting > 0;")
                .brokenBy("visit < MAX_VISITS && waiting > 0;", "visit < 17 * CLIENTS && waiting > 0;"),
            Sentence.described(EMPTY, SentencesOfService::pointerWrapsAround)
                .brokenBy("pointer = (pointer + 1) % CLIENTS;", "pointer = Math.min(pointer + 1, CLIENTS - 1);")
                .brokenBy("pointer = (pointer + 1) % CLIENTS;", "pointer = (pointer + 1) % (CLIENTS - 1);"),
            Sentence.described(EMPTY, SentencesOfService::emptyQueuesArePassedBy)
                .brokenBy("pointer = (pointer + 1) % CLIENTS;", "pointer = (pointer + 2) % CLIENTS;"),
            Sentence.described("if the client has not got credit since the pointer moved to it, its credit increases by 4",
                    SentencesOfService::creditOfFourEachTime)
                .brokenBy("GRANT = 4", "GRANT = 3")
                .brokenBy("GRANT = 4", "GRANT = 5")
                .brokenBy("% CLIENTS; granted = false;", "% CLIENTS;"),
            Sentence.described("if the client has not got credit since the pointer moved to it",
                    SentencesOfService::noSecondCreditAfterClosing)
                .brokenBy("lengths[client] = 0; credits[client] = 0;",
                    "lengths[client] = 0; credits[client] = 0; granted = granted && client != pointer;"),
            Sentence.described("as long as its queue is not empty and the size of the first request is at most the credit",
                    SentencesOfService::sizeEqualToTheCredit)
                .brokenBy("sizes[pointer * MAX_QUEUE] <= credits[pointer]", "sizes[pointer * MAX_QUEUE] < credits[pointer]")
                .brokenBy("sizes[pointer * MAX_QUEUE] <= credits[pointer]",
                    "sizes[pointer * MAX_QUEUE] <= credits[pointer] + 1"),
            Sentence.described("as long as its queue is not empty and the size of the first request is at most the credit",
                    SentencesOfService::severalRequestsInOneVisit)
                .brokenBy("turn < MAX_QUEUE && isFirstCovered()", "turn < 1 && isFirstCovered()")
                .brokenBy("turn < MAX_QUEUE && isFirstCovered()", "turn < 3 && isFirstCovered()"),
            Sentence.described(ENDS, SentencesOfService::sizeEqualToTheBudget)
                .brokenBy(BUDGET, "if (size >= rest) { return done; }")
                .brokenBy(BUDGET, "if (size > rest + 1) { return done; }"),
            Sentence.described(ENDS, SentencesOfService::noOtherClientIsServedThen)
                .brokenBy(BUDGET, "if (size > rest) { break; }"),
            Sentence.described(ENDS, SentencesOfService::pointerStaysWhenServingEnds)
                .brokenBy(BUDGET, "if (size > rest) { moveOn(); return done; }"),
            Sentence.described("the credit and the rest of the budget decrease by its size", SentencesOfService::budgetAndCreditGoDown)
                .brokenBy("credits[pointer] -= size;", "credits[pointer] -= size - 1;")
                .brokenBy("credits[pointer] -= size;", "")
                .brokenBy("rest -= size;", "rest--;"),
            Sentence.described("Then, if the queue is empty, the credit becomes 0", SentencesOfService::anEmptiedQueueHasNoCredit)
                .brokenBy("if (lengths[pointer] == 0) { credits[pointer] = 0; }", "")
                .brokenBy("if (lengths[pointer] == 0) { credits[pointer] = 0; }", "credits[pointer] = 0;"),
            Sentence.described("in any case the pointer moves on to the next client", SentencesOfService::pointerMovesOnInAnyCase)
                .brokenBy("done++; } moveOn(); }", "done++; } if (waiting > 0) { moveOn(); } }")
                .brokenBy("done++; } moveOn(); }",
                    "done++; } if (lengths[pointer] > 0) { granted = false; } else { moveOn(); } }"),
            Sentence.described("(Whether the client at the pointer has got its credit is remembered when serving ends.)",
                    SentencesOfService::noSecondCreditAfterServingEnded)
                .brokenBy("int spend(int budget) {", "int spend(int budget) { granted = false;")
                .brokenBy("credits[pointer] += GRANT; granted = true;", "credits[pointer] += GRANT;"),
            Sentence.promised(19, "`client`: 0 to 15", SentencesOfService::rangeOfRequestClient)
                .brokenBy(REQUEST, REQUEST.replace("!isClient(client)", "client < 0"))
                .brokenBy(REQUEST, REQUEST.replace("!isClient(client)", "client >= CLIENTS")),
            Sentence.promised(19, "`size`: 1 to 9", SentencesOfService::rangeOfRequestSize)
                .brokenRange("isWithin(size, ", "1", "MAX_SIZE"),
            Sentence.promised(19, "Returns the number of requests in the queue", SentencesOfService::answersOneToEight)
                .brokenBy("now.service.enqueue(client, size); return now.service.lengths[client];",
                    "now.service.enqueue(client, size); return now.service.lengths[client] - 1;")
                .brokenBy("now.service.enqueue(client, size); return now.service.lengths[client];",
                    "now.service.enqueue(client, size); return now.service.waiting;"),
            Sentence.promised(19, "OUT_OF_RANGE if an argument is out of range", SentencesOfService::requestWithBothArgumentsWrong)
                .brokenBy(REQUEST, REQUEST.replace("fail(OUT_OF_RANGE)", "OUT_OF_RANGE"))
                .brokenBy(REQUEST, REQUEST.replace("return", "history.save(now); return")),
            Sentence.promised(19, "FULL if the queue has 8 requests", SentencesOfService::aFullQueueIsRefused)
                .brokenBy(QUEUE_FULL, "")
                .brokenBy(QUEUE_FULL, QUEUE_FULL.replace("return", "history.save(now); return"))
                .brokenBy(QUEUE_FULL, QUEUE_FULL.replace("lengths[client] >= MAX_QUEUE", "waiting >= MAX_QUEUE")),
            Sentence.promised(19, "NOT_CONNECTED if the client has no connection", SentencesOfService::aClientWithoutConnection)
                .brokenBy(NO_PORT, "")
                .brokenBy(NO_PORT, NO_PORT.replace("return", "history.save(now); return"))
                .brokenBy(NO_PORT, NO_PORT.replace("now.ports.countOf(client) == 0", "now.ports.total == 0"))
                .brokenBy(NO_PORT,
                    NO_PORT.replace("now.ports.countOf(client) == 0", "!now.ports.isConnected(placeOf(client, 0))")),
            Sentence.promised(20, "`budget`: 0 to 200", SentencesOfService::rangeOfBudget)
                .brokenRange("isWithin(budget, ", "0", "MAX_BUDGET"),
            Sentence.promised(20, "Returns the number of requests that were served", SentencesOfService::noneServedAndTheMost)
                .brokenBy("rest -= size; done++;", "rest -= size; done += size;")
                .brokenBy("int rest = budget;", "int rest = budget - 1;")
                .brokenBy("int rest = budget;", "int rest = budget + 1;")
                .brokenBy("int rest = budget;", "int rest = Math.max(budget, 1);"),
            Sentence.promised(20, "OUT_OF_RANGE if budget is out of range", SentencesOfService::refusedBudgetServesNothing)
                .brokenBy("if (!isWithin(budget, 0, MAX_BUDGET)) { return",
                    "if (!isWithin(budget, 0, MAX_BUDGET)) { now.service.spend(budget); return")
                .brokenBy("if (!isWithin(budget, 0, MAX_BUDGET)) { return",
                    "if (!isWithin(budget, 0, MAX_BUDGET)) { history.save(now); return"),
            Sentence.promised(21, NO_CLIENT, SentencesOfService::rangeOfQueued)
                .brokenBy("isClient(client) ? now.service.lengths[client] : fail(OUT_OF_RANGE)",
                    "isClient(client) ? now.service.lengths[client] : OUT_OF_RANGE")
                .brokenBy("isClient(client) ? now.service.lengths[client] : fail(OUT_OF_RANGE)",
                    "isWithin(client, 0, 14) ? now.service.lengths[client] : fail(OUT_OF_RANGE)")
                .brokenBy("isClient(client) ? now.service.lengths[client] : fail(OUT_OF_RANGE)",
                    "isWithin(client, 0, 16) ? now.service.lengths[client % 16] : fail(OUT_OF_RANGE)"),
            Sentence.promised(21, "Returns the number of requests", SentencesOfService::queuesFromEmptyToFull)
                .brokenBy("isClient(client) ? now.service.lengths[client]",
                    "isClient(client) ? Math.min(now.service.lengths[client], 7)")
                .brokenBy("isClient(client) ? now.service.lengths[client]",
                    "isClient(client) ? Math.max(now.service.lengths[client], 1)"),
            Sentence.promised(22, NO_CLIENT, SentencesOfService::rangeOfCredit)
                .brokenBy("isClient(client) ? now.service.credits[client] : fail(OUT_OF_RANGE)",
                    "isClient(client) ? now.service.credits[client] : OUT_OF_RANGE")
                .brokenBy("isClient(client) ? now.service.credits[client] : fail(OUT_OF_RANGE)",
                    "isWithin(client, 1, 15) ? now.service.credits[client] : fail(OUT_OF_RANGE)")
                .brokenBy("isClient(client) ? now.service.credits[client] : fail(OUT_OF_RANGE)",
                    "isWithin(client, 0, 16) ? now.service.credits[client % 16] : fail(OUT_OF_RANGE)"),
            Sentence.promised(22, "Returns the credit", SentencesOfService::leastAndGreatestCredit)
                .brokenBy("isClient(client) ? now.service.credits[client]",
                    "isClient(client) ? Math.min(now.service.credits[client], 11)")
                .brokenBy("isClient(client) ? now.service.credits[client]",
                    "isClient(client) ? Math.max(now.service.credits[client], 1)"),
            Sentence.promised(23, NO_CLIENT, SentencesOfService::rangeOfServed)
                .brokenBy("isClient(client) ? now.service.totals[client] : fail(OUT_OF_RANGE)",
                    "isClient(client) ? now.service.totals[client] : OUT_OF_RANGE")
                .brokenBy("isClient(client) ? now.service.totals[client] : fail(OUT_OF_RANGE)",
                    "isWithin(client, 0, 14) ? now.service.totals[client] : fail(OUT_OF_RANGE)")
                .brokenBy("isClient(client) ? now.service.totals[client] : fail(OUT_OF_RANGE)",
                    "isWithin(client, 0, 16) ? now.service.totals[client % 16] : fail(OUT_OF_RANGE)"),
            Sentence.promised(23, "Returns the total size", SentencesOfService::nothingServedAndAllOfAQueue)
                .brokenBy("totals[pointer] += size;", "totals[pointer]++;")
                .brokenBy("totals[pointer] += size;", "totals[pointer] = size;")
                .brokenBy("lengths[client] = 0; credits[client] = 0;",
                    "lengths[client] = 0; credits[client] = 0; totals[client] = 0;"),
            Sentence.promised(24, NO_CLIENT, SentencesOfService::rangeOfShareBits)
                .brokenBy("shareBits(int client) { if (!isClient(client)) {", "shareBits(int client) { if (client < 0) {")
                .brokenBy("shareBits(int client) { if (!isClient(client)) {", "shareBits(int client) { if (client >= CLIENTS) {")
                .brokenBy("shareBits(int client) { if (!isClient(client)) { return fail(OUT_OF_RANGE)",
                    "shareBits(int client) { if (!isClient(client)) { return OUT_OF_RANGE"),
            Sentence.promised(24, "the bits of 0.0f if nothing has been served", SentencesOfService::nothingServedHasNoShare)
                .brokenBy("if (whole <= 0) { return 0; }", "if (whole <= 0) { return NONE; }")
                .brokenBy("if (whole <= 0) { return 0; }", "if (whole <= 0) { return bitsOfShare(1.0f); }"),
            Sentence.promised(24, "Returns the bits of the float as Float.floatToIntBits gives them",
                    SentencesOfService::noShareAllAndThoseBetween)
                .brokenBy("if (share <= 0.0f) { return 0; }", "if (share <= 0.0f) { return NONE; }")
                .brokenBy("while (exponent > 1 && scaled < 1.0f)", "while (exponent > 124 && scaled < 1.0f)")
                .brokenBy("(float) now.service.totals[client] / (float) whole",
                    "(float) now.service.totals[client] * (1.0f / (float) whole)"));
    }

    private static CookieServer waiting(int client, int... sizes) {
        CookieServer s = Given.connected(10);
        s.close(9, 0);
        Expect.connect(s, 15, 0);
        put(s, client, sizes);
        return s;
    }

    private static void put(CookieServer s, int client, int... sizes) {
        for (int i = 0; i < sizes.length; i++) {
            Expect.holds("request", s.request(client, sizes[i]) > 0);
        }
    }

    private static void leastAndGreatestSize() {
        CookieServer s = waiting(0);
        Expect.that("size 1", s.request(0, 1), 1);
        Expect.that("size 9", s.request(0, 9), 2);
        Expect.that("size 0", s.request(0, 0), -2);
        Expect.that("size 10", s.request(0, 10), -2);
        Expect.that("serve", s.serve(200), 2);
        Expect.that("served", s.served(0), 10);
    }

    private static void eightInAQueue() {
        CookieServer s = waiting(0, 1, 2, 3, 4, 5, 6, 7);
        Expect.that("the eighth", s.request(0, 8), 8);
        Expect.that("a ninth", s.request(0, 9), -4);
        Expect.that("eight", s.queued(0), 8);
        Expect.that("serve", s.serve(1), 1);
        Expect.that("room for one", s.request(0, 9), 8);
        Expect.that("not for two", s.request(0, 9), -4);
        Expect.that("all are served", s.serve(200), 8);
        Expect.that("with their sizes", s.served(0), 45);
    }

    private static void noCreditAtFirst() {
        CookieServer s = waiting(0, 5);
        put(s, 15, 5);
        for (int client = 0; client < 16; client++) {
            Expect.that("credit of " + client, s.credit(client), 0);
        }
        Expect.that("the first visits are not enough", s.serve(0), 0);
        Expect.that("but the second", s.credit(0), 8);
        Expect.that("and client 15 had one", s.credit(15), 4);
    }

    private static void pointerBeginsAtClient0() {
        CookieServer s = waiting(15, 1);
        put(s, 1, 1);
        put(s, 0, 1);
        Expect.that("serve", s.serve(1), 1);
        Expect.that("client 0 is the first", s.served(0), 1);
        Expect.that("client 1 waits at the pointer", s.credit(1), 4);
        Expect.that("client 15 waits", s.credit(15), 0);
    }

    private static void emptyQueuesMoveNothing() {
        CookieServer s = Given.connected(3);
        s.advance(0);
        long before = s.digest();
        Expect.that("serve(0)", s.serve(0), 0);
        Expect.that("serve(200)", s.serve(200), 0);
        Expect.that("nothing has changed", s.digest(), before);
        put(s, 0, 1);
        put(s, 1, 1);
        s.serve(1);
        Expect.that("the pointer was still at client 0", s.served(0), 1);
    }

    private static void asManyRoundsAsNeeded() {
        CookieServer s = waiting(0, 9, 9, 9, 9, 9, 9, 9, 9);
        Expect.that("18 rounds for one client", s.serve(200), 8);
        Expect.that("served", s.served(0), 72);
        CookieServer t = waiting(15, 9);
        Expect.that("three rounds for the last client", t.serve(9), 1);
    }

    private static void pointerWrapsAround() {
        CookieServer s = waiting(15, 4, 4);
        put(s, 0, 4, 4);
        Expect.that("client 0 first", s.serve(4) * 100 + s.served(0), 104);
        Expect.that("then client 15", s.serve(4) * 100 + s.served(15), 104);
        Expect.that("then client 0 again", s.serve(4) * 100 + s.served(0), 108);
        Expect.that("then client 15 again", s.serve(4) * 100 + s.served(15), 108);
        put(s, 0, 4);
        put(s, 15, 4);
        Expect.that("the pointer is at client 0 again", s.serve(4) * 100 + s.served(0), 112);
    }

    private static void emptyQueuesArePassedBy() {
        CookieServer s = waiting(3, 4);
        Expect.that("serve", s.serve(0), 0);
        for (int client = 0; client < 16; client++) {
            Expect.that("credit of " + client, s.credit(client), client == 3 ? 4 : 0);
        }
        CookieServer t = waiting(3, 4);
        put(t, 4, 4);
        put(t, 5, 4);
        for (int client = 3; client <= 5; client++) {
            t.serve(4);
            Expect.that("client " + client + " comes in its turn", t.served(client), 4);
        }
    }

    private static void creditOfFourEachTime() {
        CookieServer s = waiting(0, 9);
        put(s, 1, 1, 9);
        Expect.that("the first turn", s.serve(1), 1);
        Expect.that("credit of client 0 after three rounds", s.credit(0), 12);
        Expect.that("credit of client 1 after two", s.credit(1), 7);
        Expect.that("serve(9)", s.serve(9), 1);
        Expect.that("credit of client 1 after three", s.credit(1), 11);
    }

    private static void noSecondCreditAfterClosing() {
        CookieServer s = waiting(0, 4);
        Expect.that("serve(0)", s.serve(0), 0);
        Expect.that("credit is given", s.credit(0), 4);
        s.close(0, 0);
        Expect.connect(s, 0, 0);
        put(s, 0, 4);
        put(s, 1, 4);
        Expect.that("serve(0)", s.serve(0), 0);
        Expect.that("not again before the pointer moves", s.credit(0), 0);
        Expect.that("so client 1 is at the pointer", s.credit(1), 4);
    }

    private static void sizeEqualToTheCredit() {
        CookieServer s = waiting(0, 4);
        put(s, 1, 5);
        put(s, 2, 4);
        Expect.that("serve(8)", s.serve(8), 2);
        Expect.that("size 4 with credit 4", s.served(0), 4);
        Expect.that("size 5 not with credit 4", s.served(1), 0);
        Expect.that("the next client first", s.served(2), 4);
        CookieServer t = waiting(0, 8);
        put(t, 1, 1, 1, 1, 1, 1);
        Expect.that("client 1 comes before size 8", t.serve(4), 4);
        Expect.that("size 8 with credit 8", t.serve(8), 1);
        Expect.that("served", t.served(0), 8);
    }

    private static void severalRequestsInOneVisit() {
        CookieServer s = waiting(0, 1, 1, 1, 1, 1);
        put(s, 1, 1);
        Expect.that("serve(4)", s.serve(4), 4);
        Expect.that("four of client 0", s.served(0), 4);
        Expect.that("then one of client 1", s.serve(1) * 100 + s.served(1), 101);
        Expect.that("the fifth in the next round", s.serve(1), 1);
        Expect.that("served", s.served(0), 5);
    }

    private static void sizeEqualToTheBudget() {
        for (int size = 1; size <= 4; size++) {
            CookieServer s = waiting(0, size);
            Expect.that("a budget that is too small by 1", s.serve(size - 1), 0);
            Expect.that("an equal budget", s.serve(size), 1);
        }
        CookieServer s = waiting(0, 2, 2);
        Expect.that("a rest that is too small by 1", s.serve(3), 1);
        Expect.that("an equal rest", s.serve(2), 1);
    }

    private static void noOtherClientIsServedThen() {
        CookieServer s = waiting(0, 4);
        put(s, 1, 1);
        Expect.that("serve(3)", s.serve(3), 0);
        Expect.that("client 1 waits", s.queued(1), 1);
        Expect.that("without credit", s.credit(1), 0);
    }

    private static void pointerStaysWhenServingEnds() {
        CookieServer s = waiting(0, 2, 2);
        put(s, 1, 2);
        Expect.that("serve(2)", s.serve(2), 1);
        Expect.that("serve(2)", s.serve(2), 1);
        Expect.that("client 0 went on", s.served(0), 4);
        Expect.that("client 1 comes after it", s.serve(2), 1);
        Expect.that("client 1", s.served(1), 2);
    }

    private static void budgetAndCreditGoDown() {
        CookieServer s = waiting(0, 3, 9);
        put(s, 1, 3, 9);
        Expect.that("serve(6)", s.serve(6), 2);
        Expect.that("credit of client 0: 4 - 3 + 4 + 4", s.credit(0), 9);
        Expect.that("credit of client 1: 4 - 3 + 4", s.credit(1), 5);
        Expect.that("serve(8)", s.serve(8), 0);
        Expect.that("serve(9)", s.serve(9), 1);
        CookieServer t = waiting(0, 3, 1);
        Expect.that("nothing is left of a budget of 3", t.serve(3), 1);
    }

    private static void anEmptiedQueueHasNoCredit() {
        CookieServer s = waiting(0, 1);
        put(s, 1, 1, 9);
        Expect.that("serve(2)", s.serve(2), 2);
        Expect.that("an emptied queue", s.credit(0), 0);
        Expect.that("another one keeps its rest", s.credit(1), 11);
        Expect.that("serve(9)", s.serve(9), 1);
        Expect.that("emptied", s.credit(1), 0);
    }

    private static void pointerMovesOnInAnyCase() {
        CookieServer s = waiting(0, 1);
        Expect.that("the only request", s.serve(200), 1);
        put(s, 0, 1);
        put(s, 1, 1);
        Expect.that("serve(1)", s.serve(1), 1);
        Expect.that("client 1 has its turn", s.served(1), 1);
        CookieServer t = waiting(0, 9);
        put(t, 1, 1);
        Expect.that("serve(1)", t.serve(1), 1);
        Expect.that("a queue that is not empty is left too", t.served(1), 1);
    }

    private static void noSecondCreditAfterServingEnded() {
        CookieServer s = waiting(0, 4, 4);
        for (int i = 0; i < 3; i++) {
            Expect.that("serve(0)", s.serve(0), 0);
            Expect.that("one credit", s.credit(0), 4);
        }
        s.advance(1);
        Expect.that("serve(3)", s.serve(3), 0);
        Expect.that("one credit", s.credit(0), 4);
        Expect.that("serve(4)", s.serve(4), 1);
        Expect.that("credit of the next visit", s.credit(0), 4);
    }

    private static void rangeOfRequestClient() {
        Expect.range("client of request", 0, 15, (s, client) -> s.request(client, 1));
    }

    private static void rangeOfRequestSize() {
        Expect.range("size of request", 1, 9, (s, size) -> s.request(1, size));
    }

    private static void answersOneToEight() {
        CookieServer s = waiting(15, 1, 1);
        for (int i = 1; i <= 8; i++) {
            Expect.that("request", s.request(0, 1), i);
        }
    }

    private static void requestWithBothArgumentsWrong() {
        CookieServer s = Given.busy();
        Expect.refused("request", s, -2, () -> s.request(-1, 0));
        Expect.refused("request", s, -2, () -> s.request(16, 10));
        Expect.refused("request of a client without connection", s, -2, () -> s.request(0, 0));
    }

    private static void aFullQueueIsRefused() {
        CookieServer s = waiting(0, 1, 1, 1, 1, 1, 1, 1, 1);
        Expect.refused("a ninth request", s, -4, () -> s.request(0, 9));
        Expect.refused("out of range comes first", s, -2, () -> s.request(0, 10));
        Expect.that("another client's queue", s.request(1, 9), 1);
    }

    private static void aClientWithoutConnection() {
        CookieServer s = Given.busy();
        Expect.refused("never opened", s, -9, () -> s.request(0, 1));
        Expect.refused("half-open", s, -9, () -> s.request(3, 9));
        Expect.that("connected by another port than 0", s.request(2, 1), 1);
        s.close(2, 2);
        Expect.refused("closed", s, -9, () -> s.request(2, 1));
    }

    private static void rangeOfBudget() {
        Expect.range("serve", 0, 200, (s, budget) -> s.serve(budget));
    }

    private static void noneServedAndTheMost() {
        CookieServer s = new CookieServer();
        for (int client = 0; client < 10; client++) {
            Expect.connect(s, client, 0);
            s.advance(16);
            put(s, client, 4, 4, 4, 4, 4, 1, 1, 1);
        }
        Expect.that("serve(0)", s.serve(0), 0);
        Expect.that("serve(200)", s.serve(200), 50);
        Expect.that("serve(30)", s.serve(30), 30);
        Expect.that("the queues are empty", s.serve(200), 0);
        CookieServer one = waiting(0, 1);
        Expect.that("serve(0)", one.serve(0), 0);
        Expect.that("serve(1)", one.serve(1), 1);
    }

    private static void refusedBudgetServesNothing() {
        CookieServer s = waiting(0, 1, 2, 3);
        Expect.refused("serve(201)", s, -2, () -> s.serve(201));
        Expect.refused("serve(-1)", s, -2, () -> s.serve(-1));
        Expect.that("three wait", s.queued(0), 3);
        Expect.that("without credit", s.credit(0), 0);
    }

    private static void rangeOfQueued() {
        Expect.range("queued", 0, 15, (s, client) -> s.queued(client));
    }

    private static void queuesFromEmptyToFull() {
        CookieServer s = waiting(15);
        for (int i = 0; i <= 8; i++) {
            Expect.that("queue of client 15", s.queued(15), i);
            Expect.that("queue of client 0", s.queued(0), 0);
            s.request(15, 1);
        }
        Expect.that("a refused request is not in it", s.queued(15), 8);
    }

    private static void rangeOfCredit() {
        Expect.range("credit", 0, 15, (s, client) -> s.credit(client));
    }

    private static void leastAndGreatestCredit() {
        CookieServer s = waiting(0, 9);
        Expect.that("none", s.credit(0), 0);
        Expect.that("serve(0)", s.serve(0), 0);
        Expect.that("enough for size 9", s.credit(0), 12);
        CookieServer t = waiting(0, 3, 9);
        t.serve(3);
        Expect.that("just enough for size 9", t.credit(0), 9);
    }

    private static void rangeOfServed() {
        Expect.range("served", 0, 15, (s, client) -> s.served(client));
    }

    private static void nothingServedAndAllOfAQueue() {
        CookieServer s = waiting(0, 9, 9, 9, 9, 9, 9, 9, 9);
        Expect.that("nothing", s.served(0), 0);
        s.serve(200);
        Expect.that("a full queue of the greatest size", s.served(0), 72);
        s.close(0, 0);
        Expect.that("closing does not take it away", s.served(0), 72);
        Expect.that("another client", s.served(1), 0);
    }

    private static void rangeOfShareBits() {
        Expect.range("shareBits", 0, 15, (s, client) -> s.shareBits(client));
    }

    private static void nothingServedHasNoShare() {
        CookieServer s = waiting(0, 4);
        for (int client = 0; client < 16; client++) {
            Expect.that("share of " + client, s.shareBits(client), 0);
        }
        s.serve(3);
        Expect.that("a request that waits is not served", s.shareBits(0), 0);
    }

    private static void noShareAllAndThoseBetween() {
        CookieServer s = waiting(0, 1);
        s.serve(1);
        Expect.that("all", s.shareBits(0), Float.floatToIntBits(1.0f));
        Expect.that("nothing", s.shareBits(1), Float.floatToIntBits(0.0f));
        for (int i = 0; i < 70; i++) {
            put(s, 1, 1 + i % 9);
            s.serve(9);
            float whole = (float) (1 + s.served(1));
            Expect.that("the smaller share of " + whole, s.shareBits(0), Float.floatToIntBits(1.0f / whole));
            Expect.that("the greater share of " + whole, s.shareBits(1), Float.floatToIntBits((float) s.served(1) / whole));
        }
    }
}
