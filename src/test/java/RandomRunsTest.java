import java.util.ArrayList;
import java.util.List;
import java.util.Random;

/**
 * Runs of random calls, the same ones each time, answered by the program and by PlainServer. A run has at
 * most 512 calls, as the document promises nothing about later ones.
 */
public final class RandomRunsTest {
    private static final int RUNS = 1000;
    private static final int CALLS = 512;
    private static final int CALLS_OF_A_STEP = 3;
    private static final int ERROR_CODES = 9;
    private static final int[] EDGES = {Integer.MIN_VALUE, -11, -1, 0, 1, 8, 10, 16, 64, 201, 1001, 10000, 65521, 1048576,
        Integer.MAX_VALUE};

    private final Random random;
    private final int clients;
    private final int ports;
    private final int pace;
    private final CookieServer server = new CookieServer();
    private final PlainServer plain = new PlainServer();
    private final List<int[]> handedOut = new ArrayList<>();
    private String call = "";
    private int made = 0;

    private RandomRunsTest(int run) {
        random = new Random(run);
        clients = run % 3 == 0 ? 16 : 1 + run % 7;
        ports = run % 2 == 0 ? 8 : 2;
        pace = run % 5;
    }

    public static void main(String[] args) {
        int[] seen = new int[11];
        for (int run = 0; run < RUNS; run++) {
            RandomRunsTest test = new RandomRunsTest(run);
            while (test.made <= CALLS - ERROR_CODES - CALLS_OF_A_STEP) {
                test.step(run);
            }
            for (int code = -10; code <= -2; code++) {
                seen[-code] += test.server.errorCount(code);
            }
        }
        for (int code = 2; code <= 10; code++) {
            Expect.holds("code -" + code + " was met in some run", seen[code] > 0);
        }
        Expect.end();
    }

    private void step(int run) {
        long[] answers = randomCall();
        made++;
        Expect.that("run " + run + ", call " + made + ": " + call, answers[0], answers[1]);
        made++;
        Expect.that("run " + run + ", call " + made + ": digest after " + call, server.digest(), plain.digest());
    }

    private int upTo(int bound) {
        return random.nextInt(bound);
    }

    // Now and then an argument is one that no method or few methods take.
    private int or(int usual) {
        return upTo(120) == 0 ? EDGES[upTo(EDGES.length)] : usual;
    }

    private int client() {
        return or(upTo(clients));
    }

    private int port() {
        return or(upTo(ports));
    }

    private int ticks() {
        int kind = upTo(10);
        if (kind < 6) {
            return upTo(pace == 0 ? 2 : 6);
        }
        if (kind < 9) {
            return upTo(pace == 4 ? 70 : 22);
        }
        return upTo(4) == 0 ? upTo(1001) : upTo(70);
    }

    private long[] randomCall() {
        int kind = upTo(100);
        if (kind < 22) {
            return open();
        }
        if (kind < 52) {
            return accept();
        }
        if (kind < 60) {
            return pair("advance", or(ticks()));
        }
        if (kind < 62) {
            return pair("rotateKey", or(upTo(3) == 0 ? 1 : upTo(65521)));
        }
        if (kind < 69) {
            return pairOfTwo("close", client(), port());
        }
        if (kind < 80) {
            return pairOfTwo("request", client(), or(1 + upTo(9)));
        }
        if (kind < 85) {
            return pair("serve", or(upTo(upTo(5) == 0 ? 201 : 25)));
        }
        if (kind < 89) {
            call = "undo";
            return new long[] {server.undo(), plain.undo()};
        }
        return query();
    }

    private long[] open() {
        int client = client();
        int port = port();
        int wish = or(64 + upTo(upTo(4) == 0 ? 9936 : 1500));
        call = "open(" + client + ", " + port + ", " + wish + ")";
        int cookie = server.open(client, port, wish);
        if (cookie >= 0) {
            handedOut.add(new int[] {client, port, cookie});
        }
        return new long[] {cookie, plain.open(client, port, wish)};
    }

    private long[] accept() {
        int client = client();
        int port = port();
        int cookie = or(upTo(1048576));
        if (!handedOut.isEmpty() && upTo(12) > 0) {
            int back = 1 + upTo(Math.min(handedOut.size(), upTo(3) == 0 ? 60 : 5));
            int[] known = handedOut.get(handedOut.size() - back);
            client = upTo(15) == 0 ? client : known[0];
            port = upTo(15) == 0 ? port : known[1];
            cookie = upTo(15) == 0 ? known[2] ^ (1 << upTo(20)) : known[2];
        }
        int solution = or(upTo(10000));
        if (cookie >= 0 && cookie < 1048576 && upTo(5) > 0) {
            made++;
            solution = server.solve(cookie, plain.difficulty(), 0);
        }
        call = "accept(" + client + ", " + port + ", " + cookie + ", " + solution + ")";
        return new long[] {server.accept(client, port, cookie, solution), plain.accept(client, port, cookie, solution)};
    }

    private long[] query() {
        switch (upTo(16)) {
            case 0: return pairOfTwo("segmentSize", client(), port());
            case 1: return pairOfTwo("entryAge", client(), port());
            case 2: return pair("queued", client());
            case 3: return pair("credit", client());
            case 4: return pair("served", client());
            case 5: return pair("shareBits", client());
            case 6: return pair("cookieAge", or(upTo(1048576)));
            case 7: return pair("cookieSize", or(upTo(1048576)));
            case 8: return pair("errorCount", or(-1 - upTo(11)));
            case 9: return solve();
            default: return number();
        }
    }

    private long[] solve() {
        int cookie = or(upTo(1048576));
        int difficulty = or(upTo(7));
        int from = or(upTo(2) == 0 ? upTo(10000) : 9900 + upTo(100));
        call = "solve(" + cookie + ", " + difficulty + ", " + from + ")";
        return new long[] {server.solve(cookie, difficulty, from), plain.solve(cookie, difficulty, from)};
    }

    private long[] number() {
        int kind = upTo(7);
        call = "connections, halfOpen, remembered, epoch, load, difficulty or work: number " + kind + " of these";
        switch (kind) {
            case 0: return new long[] {server.connections(), plain.connections()};
            case 1: return new long[] {server.halfOpen(), plain.halfOpen()};
            case 2: return new long[] {server.remembered(), plain.remembered()};
            case 3: return new long[] {server.epoch(), plain.epoch()};
            case 4: return new long[] {server.load(), plain.load()};
            case 5: return new long[] {server.difficulty(), plain.difficulty()};
            default: return new long[] {server.work(), plain.work()};
        }
    }

    private long[] pair(String name, int a) {
        call = name + "(" + a + ")";
        switch (name) {
            case "advance": return new long[] {server.advance(a), plain.advance(a)};
            case "rotateKey": return new long[] {server.rotateKey(a), plain.rotateKey(a)};
            case "serve": return new long[] {server.serve(a), plain.serve(a)};
            case "queued": return new long[] {server.queued(a), plain.queued(a)};
            case "credit": return new long[] {server.credit(a), plain.credit(a)};
            case "served": return new long[] {server.served(a), plain.served(a)};
            case "shareBits": return new long[] {server.shareBits(a), plain.shareBits(a)};
            case "cookieAge": return new long[] {server.cookieAge(a), plain.cookieAge(a)};
            case "cookieSize": return new long[] {server.cookieSize(a), plain.cookieSize(a)};
            case "errorCount": return new long[] {server.errorCount(a), plain.errorCount(a)};
            default: throw new IllegalArgumentException(name);
        }
    }

    private long[] pairOfTwo(String name, int a, int b) {
        call = name + "(" + a + ", " + b + ")";
        switch (name) {
            case "close": return new long[] {server.close(a, b), plain.close(a, b)};
            case "request": return new long[] {server.request(a, b), plain.request(a, b)};
            case "segmentSize": return new long[] {server.segmentSize(a, b), plain.segmentSize(a, b)};
            case "entryAge": return new long[] {server.entryAge(a, b), plain.entryAge(a, b)};
            default: throw new IllegalArgumentException(name);
        }
    }
}
