import java.util.List;

/** Boundary sentences on digests, segment sizes, cookies, load and difficulty; promises 13 to 17. */
final class SentencesOfCookies {
    private static final int[] SIZES = {64, 128, 256, 536, 1024, 1360, 1440, 1460};
    private static final String LOAD = "the last 16 ticks, that is, at ticks greater than the present tick minus 16";

    private SentencesOfCookies() {
    }

    static List<Sentence> all() {
        return List.of(
            Sentence.described("set x = (x * 16807 + v + 1) modulo 65521", SentencesOfCookies::digestWrapsAround)
                .brokenBy("(x * FACTOR + value + 1) % MODULUS", "(x * FACTOR + value + 1) % (MODULUS + 1)")
                .brokenBy("(x * FACTOR + value + 1) % MODULUS", "(x * FACTOR + value) % MODULUS")
                .brokenBy("(x * FACTOR + value + 1) % MODULUS", "(x * FACTOR + value % 65520 + 1) % MODULUS"),
            Sentence.described("the digest is x modulo 4096", SentencesOfCookies::markStaysBelow4096)
                .brokenBy("return x % MARKS;", "return Math.min(x, MARKS - 1);")
                .brokenBy("return x % MARKS;", "return x % (MARKS - 1);"),
            Sentence.described("The index of a wish w (a number from 64 to 9999) is that of the greatest segment size"
                    + " that is at most w.", SentencesOfCookies::indexOfAWish)
                .brokenBy("SEGMENT_SIZES[i] <= wish", "SEGMENT_SIZES[i] < wish")
                .brokenBy("SEGMENT_SIZES[i] <= wish", "SEGMENT_SIZES[i] <= wish + 1")
                .brokenBy("for (int i = 1; i < OPTIONS; i++)", "for (int i = 1; i < OPTIONS - 1; i++)"),
            Sentence.described("A cookie is a number from 0 to 1048575.", SentencesOfCookies::leastAndGreatestCookie)
                .brokenRange("isWithin(cookie, ", "0", "COOKIES - 1"),
            Sentence.described("Its stamp is cookie / 32768 (0 to 31)", SentencesOfCookies::stampsBeginAndEnd)
                .brokenBy("return cookie / (OPTIONS * MARKS);", "return (cookie + 1) / (OPTIONS * MARKS);")
                .brokenBy("return cookie / (OPTIONS * MARKS);", "return Math.max(cookie - 1, 0) / (OPTIONS * MARKS);"),
            Sentence.described("its option is (cookie / 4096) modulo 8", SentencesOfCookies::optionsBeginAndEnd)
                .brokenBy("return cookie / MARKS % OPTIONS;", "return (cookie + 1) / MARKS % OPTIONS;")
                .brokenBy("return cookie / MARKS % OPTIONS;", "return Math.min(cookie / MARKS, OPTIONS - 1);"),
            Sentence.described("its mark is cookie modulo 4096", SentencesOfCookies::leastAndGreatestMark)
                .brokenBy("return cookie % MARKS == mark(", "return cookie % MARKS > 0 && cookie % MARKS == mark(")
                .brokenBy("return cookie % MARKS == mark(", "return cookie % (MARKS - 1) == mark("),
            Sentence.described("has the stamp (epoch modulo 32)", SentencesOfCookies::stampWrapsAround)
                .brokenBy("int stamp = Math.floorMod(now.currentEpoch(), STAMPS);",
                    "int stamp = Math.min(now.currentEpoch(), STAMPS - 1);")
                .brokenBy("int stamp = Math.floorMod(now.currentEpoch(), STAMPS);",
                    "int stamp = Math.floorMod(now.currentEpoch(), STAMPS - 1);"),
            Sentence.described("in " + LOAD, SentencesOfCookies::loadAfter15And16Ticks)
                .brokenBy("LOAD_TICKS = 16", "LOAD_TICKS = 15")
                .brokenBy("LOAD_TICKS = 16", "LOAD_TICKS = 17")
                .brokenBy("for (int i = 1; i <= cleared; i++)", "for (int i = 0; i <= cleared; i++)")
                .brokenBy("for (int i = 1; i <= cleared; i++)", "for (int i = 1; i < cleared; i++)"),
            Sentence.described("in " + LOAD, SentencesOfCookies::loadAfterALongPause)
                .brokenBy("Math.min(ticks, LOAD_TICKS)", "Math.min(ticks, LOAD_TICKS - 1)")
                .brokenBy("Math.min(ticks, LOAD_TICKS)", "ticks % LOAD_TICKS"),
            Sentence.described("The load is the number of openings (successful calls of open)",
                    SentencesOfCookies::refusedOpeningsAreNoLoad)
                .brokenBy("if (!isPlace(client, port) || !isWithin(wish, MIN_WISH, MAX_WISH)) { return",
                    "if (!isPlace(client, port) || !isWithin(wish, MIN_WISH, MAX_WISH)) { now.openings.countAt(now.tick); return")
                .brokenBy("return fail(CONNECTED); } history.save(now); int stamp",
                    "now.openings.countAt(now.tick); return fail(CONNECTED); } history.save(now); int stamp"),
            Sentence.described("The load is the number of openings (successful calls of open)",
                    SentencesOfCookies::openingsThatKeepNothingAreLoad)
                .brokenBy("now.openings.countAt(now.tick); boolean mayAdd",
                    "if (now.openings.total() < CALM_LOAD) { now.openings.countAt(now.tick); } boolean mayAdd")
                .brokenBy("now.openings.countAt(now.tick); boolean mayAdd",
                    "if (now.entries.count < MAX_ENTRIES) { now.openings.countAt(now.tick); } boolean mayAdd"),
            Sentence.described("The difficulty is the load divided by 8, rounded down",
                    SentencesOfCookies::difficultyIsRoundedDown)
                .brokenBy("LOAD_PER_DIFFICULTY = 8", "LOAD_PER_DIFFICULTY = 7")
                .brokenBy("LOAD_PER_DIFFICULTY = 8", "LOAD_PER_DIFFICULTY = 9")
                .brokenBy("openings.total() / LOAD_PER_DIFFICULTY", "(openings.total() + 4) / LOAD_PER_DIFFICULTY"),
            Sentence.described("but at most 6", SentencesOfCookies::difficultyIsAtMost6)
                .brokenBy("LOAD_PER_DIFFICULTY, MAX_DIFFICULTY)", "LOAD_PER_DIFFICULTY, MAX_DIFFICULTY + 1)")
                .brokenBy("LOAD_PER_DIFFICULTY, MAX_DIFFICULTY)", "LOAD_PER_DIFFICULTY, MAX_DIFFICULTY - 1)"),
            Sentence.described("is a number s from 0 to 9999", SentencesOfCookies::leastAndGreatestSolution)
                .brokenRange("isWithin(solution, ", "0", "SOLUTIONS - 1"),
            Sentence.described("is divisible by 2 to the power of d", SentencesOfCookies::divisibleByJustLess)
                .brokenBy("int lowBits = (1 << difficulty) - 1;", "int lowBits = (1 << difficulty) / 2 - 1;")
                .brokenBy("int lowBits = (1 << difficulty) - 1;", "int lowBits = 1 << difficulty;")
                .brokenBy("int lowBits = (1 << difficulty) - 1;", "int lowBits = (1 << difficulty) / 2;"),
            Sentence.described("is divisible by 2 to the power of d", SentencesOfCookies::digestZeroIsDivisible)
                .brokenBy("return (digest & lowBits) == 0;", "return (digest & lowBits) == 0 && digest > 0;"),
            Sentence.described("(Each number is a solution for difficulty 0.)", SentencesOfCookies::difficultyZeroTakesAll)
                .brokenBy("int lowBits = (1 << difficulty) - 1;", "int lowBits = (2 << difficulty) - 1;")
                .brokenBy("int lowBits = (1 << difficulty) - 1;", "int lowBits = Math.max((1 << difficulty) - 1, 1);"),
            Sentence.promised(13, "Returns the load.", SentencesOfCookies::noLoadAndGreatLoad)
                .brokenBy("public int load() { return now.openings.total();",
                    "public int load() { return Math.min(now.openings.total(), 48);")
                .brokenBy("public int load() { return now.openings.total();",
                    "public int load() { return Math.max(now.openings.total(), 1);"),
            Sentence.promised(14, "Returns the difficulty, 0 to 6.", SentencesOfCookies::leastAndGreatestDifficulty)
                .brokenBy("MAX_DIFFICULTY = 6", "MAX_DIFFICULTY = 5")
                .brokenBy("MAX_DIFFICULTY = 6", "MAX_DIFFICULTY = 7"),
            Sentence.promised(15, "`cookie`: 0 to 1048575", SentencesOfCookies::rangeOfSolveCookie)
                .brokenBy("if (!isCookie(cookie) || !isWithin(difficulty", "if (cookie < 0 || !isWithin(difficulty")
                .brokenBy("if (!isCookie(cookie) || !isWithin(difficulty", "if (cookie >= COOKIES || !isWithin(difficulty"),
            Sentence.promised(15, "`difficulty`: 0 to 6", SentencesOfCookies::rangeOfSolveDifficulty)
                .brokenRange("isWithin(difficulty, ", "0", "MAX_DIFFICULTY"),
            Sentence.promised(15, "`from`: 0 to 9999", SentencesOfCookies::rangeOfSolveFrom)
                .brokenRange("isWithin(from, ", "0", "SOLUTIONS - 1"),
            Sentence.promised(15, "OUT_OF_RANGE if an argument is out of range", SentencesOfCookies::solveWithAllArgumentsWrong)
                .brokenBy("!isWithin(from, 0, SOLUTIONS - 1)) { return fail(OUT_OF_RANGE); }",
                    "!isWithin(from, 0, SOLUTIONS - 1)) { return NONE; }")
                .brokenBy("!isWithin(from, 0, SOLUTIONS - 1)) { return fail(OUT_OF_RANGE); }",
                    "!isWithin(from, 0, SOLUTIONS - 1)) { return OUT_OF_RANGE; }"),
            Sentence.promised(15, "Returns the least solution that is at least from", SentencesOfCookies::fromItselfMaySolve)
                .brokenBy("for (int solution = from; solution <", "for (int solution = from + 1; solution <")
                .brokenBy("for (int solution = from; solution <", "for (int solution = Math.max(from - 1, 0); solution <"),
            Sentence.promised(15, "NONE if there is none", SentencesOfCookies::noSolutionUpTo9999)
                .brokenBy("solution < SOLUTIONS; solution++", "solution <= SOLUTIONS; solution++")
                .brokenBy("solution < SOLUTIONS; solution++", "solution < SOLUTIONS - 1; solution++")
                .brokenBy("return solution; } } return NONE;", "return solution; } } return fail(OUT_OF_RANGE);"),
            Sentence.promised(16, "`cookie`: 0 to 1048575", SentencesOfCookies::rangeOfCookieAge)
                .brokenBy("cookieAge(int cookie) { if (!isCookie(cookie))", "cookieAge(int cookie) { if (cookie < 0)")
                .brokenBy("cookieAge(int cookie) { if (!isCookie(cookie))", "cookieAge(int cookie) { if (cookie >= COOKIES)")
                .brokenBy("cookieAge(int cookie) { if (!isCookie(cookie)) { return fail(OUT_OF_RANGE)",
                    "cookieAge(int cookie) { if (!isCookie(cookie)) { return OUT_OF_RANGE"),
            Sentence.promised(16, "Returns the age, 0 to 31", SentencesOfCookies::ageWrapsAround)
                .brokenBy("return Math.floorMod(epoch - stampOf(cookie), STAMPS);",
                    "return (epoch - stampOf(cookie)) % STAMPS;")
                .brokenBy("return Math.floorMod(epoch - stampOf(cookie), STAMPS);",
                    "return Math.abs(epoch - stampOf(cookie)) % STAMPS;")
                .brokenBy("return Math.floorMod(epoch - stampOf(cookie), STAMPS);",
                    "return Math.max(epoch - stampOf(cookie), 0);"),
            Sentence.promised(17, "`cookie`: 0 to 1048575", SentencesOfCookies::rangeOfCookieSize)
                .brokenBy("cookieSize(int cookie) { if (!isCookie(cookie))", "cookieSize(int cookie) { if (cookie < 0)")
                .brokenBy("cookieSize(int cookie) { if (!isCookie(cookie))", "cookieSize(int cookie) { if (cookie >= COOKIES)")
                .brokenBy("cookieSize(int cookie) { if (!isCookie(cookie)) { return fail(OUT_OF_RANGE)",
                    "cookieSize(int cookie) { if (!isCookie(cookie)) { return OUT_OF_RANGE"),
            Sentence.promised(17, "Returns the segment size", SentencesOfCookies::leastAndGreatestCookieSize)
                .brokenBy("{64, 128,", "{65, 128,")
                .brokenBy("1440, 1460}", "1440, 1461}"));
    }

    private static void digestWrapsAround() {
        for (int cookie : new int[] {65518, 65519, 65520, 65521, 131040, 131041, 131042, 1048575}) {
            CookieServer s = new CookieServer();
            int from = 0;
            for (int i = 0; i < 20; i++) {
                int due = from;
                while (!Expect.solves(cookie, 6, due)) {
                    due++;
                }
                Expect.that("solve " + cookie + " from " + from, s.solve(cookie, 6, from), due);
                from = due + 1;
            }
        }
        CookieServer s = new CookieServer();
        s.rotateKey(65520);
        Expect.that("with the greatest key", s.open(15, 7, 9999), Expect.cookie(65520, 15, 7, 7, 0));
    }

    private static void markStaysBelow4096() {
        CookieServer s = new CookieServer();
        for (int place = 0; place < 128; place++) {
            int cookie = s.open(place / 8, place % 8, 64);
            Expect.that("mark of place " + place, cookie, Expect.digestOf(1, place / 8, place % 8, 0, 0));
        }
    }

    private static void indexOfAWish() {
        CookieServer s = new CookieServer();
        for (int i = 0; i < 8; i++) {
            Expect.that("wish " + SIZES[i], s.open(0, 0, SIZES[i]) / 4096, i);
            Expect.that("wish one more than " + SIZES[i], s.open(0, 0, SIZES[i] + 1) / 4096, i);
            if (i > 0) {
                Expect.that("wish one less than " + SIZES[i], s.open(0, 0, SIZES[i] - 1) / 4096, i - 1);
            }
        }
        Expect.that("the greatest wish", s.open(0, 0, 9999) / 4096, 7);
        Expect.that("too small a wish", s.open(0, 0, 63), -2);
        Expect.that("too great a wish", s.open(0, 0, 10000), -2);
    }

    private static void leastAndGreatestCookie() {
        Expect.range("cookie of accept", 0, 1048575, (s, cookie) -> s.accept(0, 0, cookie, 0));
        Expect.range("cookie of cookieAge", 0, 1048575, (s, cookie) -> s.cookieAge(cookie));
    }

    // In epoch 0 a stamp can be read off from the age: a cookie with the stamp t has the age -t modulo 32.
    private static void stampsBeginAndEnd() {
        CookieServer s = new CookieServer();
        for (int stamp = 0; stamp < 32; stamp++) {
            int age = (32 - stamp) % 32;
            Expect.that("first cookie of stamp " + stamp, s.cookieAge(stamp * 32768), age);
            Expect.that("second cookie of stamp " + stamp, s.cookieAge(stamp * 32768 + 1), age);
            Expect.that("last cookie of stamp " + stamp, s.cookieAge(stamp * 32768 + 32767), age);
        }
    }

    private static void optionsBeginAndEnd() {
        CookieServer s = new CookieServer();
        for (int i = 0; i < 16; i++) {
            Expect.that("first cookie of option " + i % 8, s.cookieSize(i * 4096), SIZES[i % 8]);
            Expect.that("last cookie of option " + i % 8, s.cookieSize(i * 4096 + 4095), SIZES[i % 8]);
        }
    }

    private static void leastAndGreatestMark() {
        for (int mark : new int[] {0, 1, 4094, 4095}) {
            int key = 0;
            while (Expect.digestOf(key, 0, 0, 0, 0) != mark) {
                key++;
            }
            CookieServer s = new CookieServer();
            s.rotateKey(key);
            Expect.that("the only mark that fits, " + mark, s.accept(0, 0, mark, 0), 64);
            s.undo();
            Expect.that("a mark beside " + mark, s.accept(0, 0, mark == 0 ? 4095 : mark - 1, 0), -7);
        }
    }

    private static void stampWrapsAround() {
        for (int epoch : new int[] {0, 1, 30, 31, 32, 33, 63, 64, 65}) {
            CookieServer s = new CookieServer();
            pass(s, epoch * 64);
            int cookie = s.open(2, 4, 64);
            Expect.that("stamp in epoch " + epoch, cookie / 32768, epoch % 32);
            Expect.that("cookie in epoch " + epoch, cookie, Expect.cookie(1, 2, 4, 0, epoch));
        }
    }

    private static void pass(CookieServer s, int ticks) {
        int rest = ticks;
        while (rest > 0) {
            s.advance(Math.min(rest, 1000));
            rest -= Math.min(rest, 1000);
        }
    }

    private static void loadAfter15And16Ticks() {
        for (int tick : new int[] {0, 1, 15, 16, 100}) {
            CookieServer s = new CookieServer();
            s.advance(tick);
            Expect.flood(s, 0, 0, 2);
            s.advance(1);
            Expect.flood(s, 0, 0, 3);
            Expect.that("both ticks", s.load(), 5);
            s.advance(14);
            Expect.that("15 ticks after the first", s.load(), 5);
            s.advance(1);
            Expect.that("16 ticks after the first", s.load(), 3);
            s.advance(1);
            Expect.that("16 ticks after the second", s.load(), 0);
        }
    }

    private static void loadAfterALongPause() {
        for (int pause : new int[] {15, 16, 17, 31, 32, 33, 999, 1000}) {
            CookieServer s = new CookieServer();
            s.advance(5);
            Expect.flood(s, 0, 0, 4);
            s.advance(0);
            Expect.that("load at once", s.load(), 4);
            s.advance(pause);
            Expect.that("load after " + pause + " ticks", s.load(), pause < 16 ? 4 : 0);
        }
    }

    private static void refusedOpeningsAreNoLoad() {
        CookieServer s = new CookieServer();
        Expect.connect(s, 0, 0);
        Expect.that("one opening", s.load(), 1);
        Expect.that("out of range", s.open(0, 1, 63), -2);
        Expect.that("connected", s.open(0, 0, 64), -3);
        Expect.that("still one", s.load(), 1);
    }

    private static void openingsThatKeepNothingAreLoad() {
        CookieServer s = new CookieServer();
        for (int i = 0; i < 16; i++) {
            s.open(i, 0, 64);
            Expect.that("load after opening " + (i + 1), s.load(), i + 1);
        }
        Expect.that("four were kept", s.halfOpen(), 4);
    }

    private static void difficultyIsRoundedDown() {
        for (int load : new int[] {0, 1, 7, 8, 9, 15, 16, 23, 24, 31, 32, 39, 40, 47, 48}) {
            Expect.that("difficulty with load " + load, Given.loaded(load).difficulty(), load / 8);
        }
    }

    private static void difficultyIsAtMost6() {
        for (int load : new int[] {48, 55, 56, 57, 64, 200}) {
            Expect.that("difficulty with load " + load, Given.loaded(load).difficulty(), 6);
        }
    }

    private static void leastAndGreatestSolution() {
        for (int solution : new int[] {0, 9999}) {
            CookieServer s = Given.loaded(8);
            int option = 0;
            while (!Expect.solves(Expect.cookie(1, 0, 0, option, 0), 1, solution)) {
                option++;
            }
            int cookie = Expect.cookie(1, 0, 0, option, 0);
            Expect.that("solved by " + solution, s.accept(0, 0, cookie, solution), SIZES[option]);
        }
        int cookie = Expect.cookie(1, 0, 0, 0, 0);
        Expect.that("too small", Given.loaded(8).accept(0, 0, cookie, -1), -2);
        Expect.that("too great", Given.loaded(8).accept(0, 0, cookie, 10000), -2);
    }

    private static void divisibleByJustLess() {
        CookieServer s = new CookieServer();
        for (int d = 1; d <= 6; d++) {
            int number = 0;
            while (Expect.digestOf(0, 30421, number) % (1 << d) != 1 << (d - 1)) {
                number++;
            }
            Expect.holds("divisible by 2 to the power of " + (d - 1), s.solve(30421, d - 1, number) == number);
            Expect.holds("not by 2 to the power of " + d, s.solve(30421, d, number) > number);
            int odd = 0;
            while (Expect.digestOf(0, 30421, odd) % (1 << d) != 1) {
                odd++;
            }
            Expect.holds("an odd digest neither", s.solve(30421, d, odd) > odd);
        }
    }

    private static void digestZeroIsDivisible() {
        int cookie = 0;
        int number = 0;
        while (Expect.digestOf(0, cookie, number) != 0) {
            number = (number + 1) % 10000;
            cookie += number == 0 ? 1 : 0;
        }
        CookieServer s = new CookieServer();
        for (int d = 0; d <= 6; d++) {
            Expect.that("digest 0 for difficulty " + d, s.solve(cookie, d, number), number);
        }
    }

    private static void difficultyZeroTakesAll() {
        CookieServer s = new CookieServer();
        for (int number : new int[] {0, 1, 2, 3, 4, 5, 6, 7, 5000, 9998, 9999}) {
            Expect.that("solve for difficulty 0", s.solve(30421, 0, number), number);
            Expect.that("accept without load", s.accept(4, 4, Expect.cookie(1, 4, 4, 0, 0), number), 64);
            s.undo();
        }
    }

    private static void noLoadAndGreatLoad() {
        Expect.that("no load", new CookieServer().load(), 0);
        Expect.that("one opening", Given.loaded(1).load(), 1);
        Expect.that("500 openings", Given.loaded(500).load(), 500);
    }

    private static void leastAndGreatestDifficulty() {
        Expect.that("least", new CookieServer().difficulty(), 0);
        Expect.that("greatest", Given.loaded(48).difficulty(), 6);
        Expect.that("greatest", Given.loaded(500).difficulty(), 6);
    }

    private static void rangeOfSolveCookie() {
        Expect.range("cookie of solve", 0, 1048575, (s, cookie) -> s.solve(cookie, 0, 0));
    }

    private static void rangeOfSolveDifficulty() {
        Expect.range("difficulty of solve", 0, 6, (s, difficulty) -> s.solve(1, difficulty, 0));
    }

    private static void rangeOfSolveFrom() {
        Expect.range("from of solve", 0, 9999, (s, from) -> s.solve(1, 0, from));
    }

    private static void solveWithAllArgumentsWrong() {
        CookieServer s = Given.busy();
        Expect.refused("solve", s, -2, () -> s.solve(-1, -1, -1));
        Expect.refused("solve", s, -2, () -> s.solve(1048576, 7, 10000));
    }

    private static void fromItselfMaySolve() {
        CookieServer s = new CookieServer();
        for (int d = 1; d <= 6; d++) {
            int first = s.solve(1165, d, 0);
            Expect.holds("it is a solution", Expect.solves(1165, d, first));
            Expect.that("from the solution itself", s.solve(1165, d, first), first);
            int second = s.solve(1165, d, first + 1);
            Expect.holds("the next is greater", second > first && Expect.solves(1165, d, second));
            for (int between = first + 1; between < second; between++) {
                Expect.holds("none lies between", !Expect.solves(1165, d, between));
            }
        }
    }

    private static void noSolutionUpTo9999() {
        int none = 0;
        while (Expect.solves(none, 6, 9999) || !Expect.solves(none, 6, 10000)) {
            none++;
        }
        int last = 0;
        while (!Expect.solves(last, 6, 9999)) {
            last++;
        }
        CookieServer s = new CookieServer();
        long before = s.digest();
        Expect.that("10000 is too great", s.solve(none, 6, 9999), -1);
        Expect.that("9999 is not", s.solve(last, 6, 9999), 9999);
        Expect.that("NONE is no error", s.digest(), before);
    }

    private static void rangeOfCookieAge() {
        Expect.range("cookieAge", 0, 1048575, (s, cookie) -> s.cookieAge(cookie));
    }

    private static void ageWrapsAround() {
        CookieServer s = new CookieServer();
        for (int epoch = 0; epoch < 67; epoch++) {
            Expect.that("age of stamp 0 in epoch " + epoch, s.cookieAge(0), epoch % 32);
            Expect.that("age of stamp 31 in epoch " + epoch, s.cookieAge(1048575), (epoch + 1) % 32);
            Expect.that("age of stamp 1 in epoch " + epoch, s.cookieAge(32768), (epoch + 31) % 32);
            s.advance(64);
        }
    }

    private static void rangeOfCookieSize() {
        Expect.range("cookieSize", 0, 1048575, (s, cookie) -> s.cookieSize(cookie));
    }

    private static void leastAndGreatestCookieSize() {
        CookieServer s = new CookieServer();
        Expect.that("the least cookie", s.cookieSize(0), 64);
        Expect.that("the greatest cookie", s.cookieSize(1048575), 1460);
    }
}
