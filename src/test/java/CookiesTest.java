/** Promises 13 to 18: load, difficulty, solve, cookieAge, cookieSize, work. */
public final class CookiesTest {
    private static final int[] SIZES = {64, 128, 256, 536, 1024, 1360, 1440, 1460};

    public static void main(String[] args) {
        promise13LoadOfTheLastSixteenTicks();
        promise13LoadSlides();
        promise13LoadIsUndone();
        promise14Difficulty();
        promise15SolveFindsTheLeast();
        promise15SolveNone();
        promise15SolveRefusals();
        promise16CookieAge();
        promise16CookieAgeRefusals();
        promise17CookieSize();
        promise18Work();
        Expect.end();
    }

    private static void promise13LoadOfTheLastSixteenTicks() {
        CookieServer s = new CookieServer();
        s.advance(37);
        Expect.flood(s, 0, 0, 3);
        Expect.that("at once", s.load(), 3);
        s.advance(15);
        Expect.that("after 15 ticks", s.load(), 3);
        s.advance(1);
        Expect.that("after 16 ticks", s.load(), 0);
        Expect.flood(s, 0, 0, 2);
        s.advance(1000);
        Expect.that("after 1000 ticks", s.load(), 0);
    }

    private static void promise13LoadSlides() {
        CookieServer s = new CookieServer();
        for (int tick = 0; tick < 40; tick++) {
            Expect.flood(s, 0, 0, 1);
            Expect.that("one opening a tick", s.load(), Math.min(tick + 1, 16));
            s.advance(1);
        }
        for (int i = 15; i > 5; i -= 3) {
            Expect.that("running out", s.load(), i);
            s.advance(3);
        }
        s.open(-1, 0, 64);
        Expect.that("a refused opening is none", s.load(), 3);
    }

    private static void promise13LoadIsUndone() {
        CookieServer s = new CookieServer();
        Expect.flood(s, 0, 0, 5);
        s.advance(16);
        Expect.that("gone", s.load(), 0);
        s.undo();
        Expect.that("back", s.load(), 5);
        s.undo();
        Expect.that("one less", s.load(), 4);
    }

    private static void promise14Difficulty() {
        CookieServer s = new CookieServer();
        for (int load = 0; load <= 70; load++) {
            Expect.that("difficulty with load " + load, s.difficulty(), Math.min(load / 8, 6));
            Expect.flood(s, 0, 0, 1);
        }
        s.advance(16);
        Expect.that("difficulty afterwards", s.difficulty(), 0);
    }

    private static void promise15SolveFindsTheLeast() {
        int[] cookies = {0, 1, 30421, 65520, 65521, 524288, 1048575};
        int[] starts = {0, 1, 777, 5000, 9990, 9999};
        CookieServer s = new CookieServer();
        for (int cookie : cookies) {
            for (int difficulty = 0; difficulty <= 6; difficulty++) {
                for (int from : starts) {
                    Expect.that("solve " + cookie + ", " + difficulty + ", " + from,
                            s.solve(cookie, difficulty, from), leastSolution(cookie, difficulty, from));
                }
            }
        }
        Expect.that("no errors", s.errorCount(-2), 0);
        Expect.that("no work", s.work(), 0);
        Expect.that("nothing saved", s.undo(), -10);
    }

    private static int leastSolution(int cookie, int difficulty, int from) {
        for (int s = from; s <= 9999; s++) {
            if (Expect.digestOf(0, cookie, s) % (1 << difficulty) == 0) {
                return s;
            }
        }
        return -1;
    }

    private static void promise15SolveNone() {
        CookieServer s = new CookieServer();
        int none = 0;
        int last = 0;
        for (int cookie = 0; cookie < 200; cookie++) {
            int due = Expect.digestOf(0, cookie, 9999) % 64 == 0 ? 9999 : -1;
            Expect.that("the last number of cookie " + cookie, s.solve(cookie, 6, 9999), due);
            if (due < 0) {
                none++;
            } else {
                last++;
            }
        }
        Expect.holds("both answers were asked for", none > 0 && last > 0);
        Expect.that("NONE is no error", s.errorCount(-2), 0);
    }

    private static void promise15SolveRefusals() {
        CookieServer s = new CookieServer();
        int[][] bad = {{-1, 0, 0}, {1048576, 0, 0}, {0, -1, 0}, {0, 7, 0}, {0, 0, -1}, {0, 0, 10000},
            {Integer.MIN_VALUE, 0, 0}, {0, Integer.MAX_VALUE, 0}, {0, 0, Integer.MIN_VALUE}, {0, 32, 0}};
        for (int[] b : bad) {
            Expect.that("solve out of range", s.solve(b[0], b[1], b[2]), -2);
        }
        Expect.that("counted", s.errorCount(-2), bad.length);
    }

    private static void promise16CookieAge() {
        CookieServer s = new CookieServer();
        for (int epoch = 0; epoch < 70; epoch++) {
            for (int stamp = 0; stamp < 32; stamp += 11) {
                int due = (epoch - stamp + 64) % 32;
                Expect.that("age of stamp " + stamp + " in epoch " + epoch, s.cookieAge(stamp * 32768), due);
                Expect.that("and of its last cookie", s.cookieAge(stamp * 32768 + 32767), due);
            }
            s.advance(64);
        }
    }

    private static void promise16CookieAgeRefusals() {
        CookieServer s = new CookieServer();
        int[] bad = {-1, 1048576, Integer.MIN_VALUE, Integer.MAX_VALUE};
        for (int cookie : bad) {
            Expect.that("cookieAge out of range", s.cookieAge(cookie), -2);
            Expect.that("cookieSize out of range", s.cookieSize(cookie), -2);
        }
        Expect.that("counted", s.errorCount(-2), 8);
        Expect.that("the greatest cookie has stamp 31", s.cookieAge(1048575), 1);
    }

    private static void promise17CookieSize() {
        CookieServer s = new CookieServer();
        for (int i = 0; i < 8; i++) {
            Expect.that("first cookie of option " + i, s.cookieSize(i * 4096), SIZES[i]);
            Expect.that("last cookie of option " + i, s.cookieSize(i * 4096 + 4095), SIZES[i]);
            Expect.that("with a stamp", s.cookieSize(31 * 32768 + i * 4096), SIZES[i]);
        }
    }

    private static void promise18Work() {
        CookieServer s = new CookieServer();
        s.open(0, 0, 64);
        s.solve(77, 6, 0);
        s.serve(3);
        Expect.that("opening, solving and serving cost nothing", s.work(), 0);
        Expect.that("forged", s.accept(1, 0, Expect.cookie(1, 1, 0, 0, 0) ^ 1, 0), -7);
        Expect.that("a failed call is counted", s.work(), 1);
        Expect.that("by cookie", s.accept(1, 0, Expect.cookie(1, 1, 0, 0, 0), 0), 64);
        Expect.that("one digest", s.work(), 2);
        s.rotateKey(8);
        Expect.that("by the present key", s.accept(2, 0, Expect.cookie(8, 2, 0, 0, 0), 0), 64);
        Expect.that("one digest is enough", s.work(), 3);
        Expect.that("by the previous key", s.accept(3, 0, Expect.cookie(1, 3, 0, 0, 0), 0), 64);
        Expect.that("two digests", s.work(), 5);
        Expect.that("connected", s.accept(3, 0, 5, 0), -3);
        Expect.that("stale", s.accept(4, 0, 5 * 32768, 0), -5);
        Expect.that("neither costs work", s.work(), 5);
        s.undo();
        Expect.that("undo takes work back", s.work(), 3);
    }
}
