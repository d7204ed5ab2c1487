import java.util.List;

/** Boundary sentences on connections; promises 6, 7 and 8. */
final class SentencesOfConnections {
    private static final String CLOSE = "public int close(int client, int port) { if (!isPlace(client, port))";
    private static final String SIZE = "public int segmentSize(int client, int port) { if (!isPlace(client, port))";
    private static final String LAST = "Closing a connection of a client that has no other connection empties its queue and sets "
        + "its credit to 0.";

    private SentencesOfConnections() {
    }

    static List<Sentence> all() {
        return List.of(
            Sentence.described(LAST, SentencesOfConnections::theLastConnectionTakesTheQueue)
                .brokenBy("if (left == 0) { now.service.dismiss(client); }", "")
                .brokenBy("lengths[client] = 0; credits[client] = 0;", "lengths[client] = 0;")
                .brokenBy("lengths[client] = 0; credits[client] = 0;", "credits[client] = 0;")
                .brokenBy("waiting -= lengths[client];", ""),
            Sentence.described(LAST, SentencesOfConnections::anotherConnectionKeepsTheQueue)
                .brokenBy("if (left == 0) { now.service.dismiss(client); }", "now.service.dismiss(client);")
                .brokenBy("if (left == 0) { now.service.dismiss(client); }",
                    "if (left <= 1) { now.service.dismiss(client); }"),
            Sentence.described(LAST, SentencesOfConnections::otherClientsKeepTheirQueues)
                .brokenBy("if (left == 0) { now.service.dismiss(client); }",
                    "if (left == 0) { for (int i = 0; i < CLIENTS; i++) { now.service.dismiss(i); } }"),
            Sentence.promised(6, "`client`: 0 to 15", SentencesOfConnections::rangeOfCloseClient)
                .brokenBy(CLOSE, CLOSE.replace("!isPlace(client, port)", "!isWithin(port, 0, PORTS - 1)")),
            Sentence.promised(6, "`port`: 0 to 7", SentencesOfConnections::rangeOfClosePort)
                .brokenBy(CLOSE, CLOSE.replace("!isPlace(client, port)", "!isClient(client)")),
            Sentence.promised(6, "Returns the number of connections that the client still has",
                    SentencesOfConnections::closingAllPorts)
                .brokenBy("int left = now.ports.countOf(client);", "int left = now.ports.total;")
                .brokenBy("for (int port = 0; port < PORTS; port++)", "for (int port = 1; port < PORTS; port++)")
                .brokenBy("for (int port = 0; port < PORTS; port++)", "for (int port = 0; port < PORTS - 1; port++)"),
            Sentence.promised(6, "OUT_OF_RANGE if an argument is out of range", SentencesOfConnections::closeWithBothArgumentsWrong)
                .brokenBy(CLOSE + " { return fail(OUT_OF_RANGE); }", CLOSE + " { return OUT_OF_RANGE; }")
                .brokenBy(CLOSE + " { return fail(OUT_OF_RANGE); }", CLOSE + " { return fail(NOT_CONNECTED); }")
                .brokenBy(CLOSE + " {", CLOSE + " { history.save(now);"),
            Sentence.promised(6, "NOT_CONNECTED if the port is not connected", SentencesOfConnections::closeOfAPortNotConnected)
                .brokenBy("if (!now.ports.isConnected(place)) { return fail(NOT_CONNECTED); }", "")
                .brokenBy("if (!now.ports.isConnected(place)) {", "if (now.ports.countOf(client) == 0) {")
                .brokenBy("if (!now.ports.isConnected(place)) {", "if (!now.ports.isConnected(place)) { now.entries.drop(place);")
                .brokenBy("if (!now.ports.isConnected(place)) {", "if (!now.ports.isConnected(place)) { history.save(now);"),
            Sentence.promised(7, "`client`: 0 to 15", SentencesOfConnections::rangeOfSizeClient)
                .brokenBy(SIZE, SIZE.replace("!isPlace(client, port)", "!isWithin(port, 0, PORTS - 1)")),
            Sentence.promised(7, "`port`: 0 to 7", SentencesOfConnections::rangeOfSizePort)
                .brokenBy(SIZE, SIZE.replace("!isPlace(client, port)", "!isClient(client)")),
            Sentence.promised(7, "NONE if the port is not connected", SentencesOfConnections::sizeOfAPortNotConnected)
                .brokenBy("Cookies.sizeOfOption(now.ports.optionAt(place)) : NONE;",
                    "Cookies.sizeOfOption(now.ports.optionAt(place)) : fail(NOT_CONNECTED);")
                .brokenBy("codes[place] = 0; total--;", "total--;"),
            Sentence.promised(7, "OUT_OF_RANGE if an argument is out of range", SentencesOfConnections::sizeWithBothArgumentsWrong)
                .brokenBy(SIZE + " { return fail(OUT_OF_RANGE); }", SIZE + " { return OUT_OF_RANGE; }")
                .brokenBy(SIZE + " { return fail(OUT_OF_RANGE); }", SIZE + " { return NONE; }"),
            Sentence.promised(8, "Returns the number of connections, 0 to 10.", SentencesOfConnections::noConnectionAndTen)
                .brokenBy("public int connections() { return now.ports.total;",
                    "public int connections() { return Math.min(now.ports.total, 9);")
                .brokenBy("public int connections() { return now.ports.total;",
                    "public int connections() { return Math.max(now.ports.total, 1);")
                .brokenBy("codes[place] = 0; total--;", "codes[place] = 0;"));
    }

    // Clients 1 and 2 are connected twice and once, each with requests and credit.
    private static CookieServer withQueues() {
        CookieServer s = new CookieServer();
        Expect.connect(s, 1, 0);
        Expect.connect(s, 1, 7);
        Expect.connect(s, 2, 3);
        for (int client = 1; client <= 2; client++) {
            s.request(client, 9);
            s.request(client, 9);
        }
        Expect.that("serve(8)", s.serve(8), 0);
        Expect.that("credit of client 1", s.credit(1), 12);
        Expect.that("credit of client 2", s.credit(2), 8);
        return s;
    }

    private static void theLastConnectionTakesTheQueue() {
        CookieServer s = withQueues();
        Expect.that("close", s.close(2, 3), 0);
        Expect.that("queue", s.queued(2), 0);
        Expect.that("credit", s.credit(2), 0);
        s.close(1, 0);
        s.close(1, 7);
        Expect.that("nothing is left to serve", s.serve(200), 0);
        Expect.connect(s, 5, 0);
        Expect.connect(s, 6, 0);
        s.request(5, 1);
        Expect.that("a new request", s.serve(200), 1);
        s.request(5, 1);
        s.request(6, 1);
        Expect.that("serve(1)", s.serve(1), 1);
        Expect.that("the pointer stopped behind client 5", s.served(6), 1);
    }

    private static void anotherConnectionKeepsTheQueue() {
        CookieServer s = withQueues();
        Expect.that("close", s.close(1, 0), 1);
        Expect.that("queue", s.queued(1), 2);
        Expect.that("credit", s.credit(1), 12);
        Expect.that("close", s.close(1, 7), 0);
        Expect.that("queue", s.queued(1), 0);
        Expect.that("credit", s.credit(1), 0);
    }

    private static void otherClientsKeepTheirQueues() {
        CookieServer s = withQueues();
        s.close(2, 3);
        Expect.that("queue", s.queued(1), 2);
        Expect.that("credit", s.credit(1), 12);
        Expect.that("serve", s.serve(200), 2);
        Expect.that("served", s.served(1), 18);
        Expect.that("served", s.served(2), 0);
    }

    private static void rangeOfCloseClient() {
        Expect.range("client of close", 0, 15, (s, client) -> s.close(client, 0));
    }

    private static void rangeOfClosePort() {
        Expect.range("port of close", 0, 7, (s, port) -> s.close(0, port));
    }

    private static void closingAllPorts() {
        CookieServer s = new CookieServer();
        Expect.connect(s, 4, 4);
        for (int port = 0; port < 8; port++) {
            Expect.connect(s, 5, port);
        }
        for (int port = 0; port < 8; port++) {
            Expect.that("close of port " + port, s.close(5, port), 7 - port);
        }
        for (int port = 0; port < 8; port++) {
            int cookie = Expect.cookie(1, 5, port, 0, 0);
            Expect.that("accept", s.accept(5, port, cookie, s.solve(cookie, 1, 0)), 64);
        }
        for (int port = 7; port >= 0; port--) {
            Expect.that("close of port " + port, s.close(5, port), port);
        }
        Expect.that("the other client's only one", s.close(4, 4), 0);
    }

    private static void closeWithBothArgumentsWrong() {
        CookieServer s = Given.busy();
        Expect.refused("close", s, -2, () -> s.close(-1, -1));
        Expect.refused("close", s, -2, () -> s.close(16, 8));
    }

    private static void closeOfAPortNotConnected() {
        CookieServer s = Given.busy();
        Expect.refused("close of a port never opened", s, -9, () -> s.close(0, 0));
        Expect.refused("close of another port of a connected client", s, -9, () -> s.close(1, 0));
        Expect.refused("close of a half-open port", s, -9, () -> s.close(3, 3));
        Expect.that("the entry is still there", s.entryAge(3, 3), 0);
        Expect.that("close", s.close(1, 1), 0);
        Expect.refused("close of a closed port", s, -9, () -> s.close(1, 1));
    }

    private static void rangeOfSizeClient() {
        Expect.range("client of segmentSize", 0, 15, (s, client) -> s.segmentSize(client, 0));
    }

    private static void rangeOfSizePort() {
        Expect.range("port of segmentSize", 0, 7, (s, port) -> s.segmentSize(0, port));
    }

    private static void sizeOfAPortNotConnected() {
        CookieServer s = Given.busy();
        s.close(1, 1);
        long before = s.digest();
        Expect.that("never opened", s.segmentSize(0, 0), -1);
        Expect.that("another port", s.segmentSize(2, 1), -1);
        Expect.that("half-open", s.segmentSize(3, 3), -1);
        Expect.that("closed", s.segmentSize(1, 1), -1);
        Expect.that("connected", s.segmentSize(2, 2), 256);
        Expect.that("NONE is no error", s.digest(), before);
    }

    private static void sizeWithBothArgumentsWrong() {
        CookieServer s = Given.busy();
        Expect.refused("segmentSize", s, -2, () -> s.segmentSize(-1, -1));
        Expect.refused("segmentSize", s, -2, () -> s.segmentSize(16, 8));
    }

    private static void noConnectionAndTen() {
        Expect.that("none", new CookieServer().connections(), 0);
        CookieServer s = Given.connected(10);
        Expect.that("ten", s.connections(), 10);
        int cookie = s.open(0, 1, 64);
        Expect.that("an opening is none", s.connections(), 10);
        Expect.that("no eleventh", s.accept(0, 1, cookie, 0), -4);
        Expect.that("still ten", s.connections(), 10);
        for (int client = 0; client < 10; client++) {
            s.close(client, 0);
            Expect.that("after closing", s.connections(), 9 - client);
        }
    }
}
