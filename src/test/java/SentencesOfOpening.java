import java.util.List;

/** Boundary sentences on opening and half-open entries; promises 4, 9 and 10. */
final class SentencesOfOpening {
    private static final String REPLACED = "if there is an entry for this client and port already, it is replaced instead, "
        + "whatever the load and the number of entries are.";
    private static final String REMOVED = "it is removed as soon as the present tick minus its tick is at least 20.";

    private SentencesOfOpening() {
    }

    static List<Sentence> all() {
        return List.of(
            Sentence.described("If the load (with this opening) is less than 12", SentencesOfOpening::keptBelowLoad12)
                .brokenBy("CALM_LOAD = 12", "CALM_LOAD = 11")
                .brokenBy("CALM_LOAD = 12", "CALM_LOAD = 13")
                .brokenBy("now.openings.countAt(now.tick); boolean mayAdd = now.openings.total() < CALM_LOAD;",
                    "boolean mayAdd = now.openings.total() < CALM_LOAD; now.openings.countAt(now.tick);"),
            Sentence.described("fewer than 4 half-open entries exist", SentencesOfOpening::fourEntriesAreKept)
                .brokenBy("MAX_ENTRIES = 4", "MAX_ENTRIES = 3")
                .brokenBy("MAX_ENTRIES = 4", "MAX_ENTRIES = 5"),
            Sentence.described("the server keeps a half-open entry with the client, the port, the cookie and the present tick",
                    SentencesOfOpening::entriesOfTheOutermostPlaces)
                .brokenBy("places[index] = place;", "places[index] = Math.min(place, PLACES - 2);")
                .brokenBy("places[index] = place;", "places[index] = Math.max(place, 1);")
                .brokenBy("ticks[index] = tick;", "ticks[index] = 0;"),
            Sentence.described(REPLACED, SentencesOfOpening::replacedUnderLoad)
                .brokenBy("boolean mayAdd) { int index = find(place);",
                    "boolean mayAdd) { if (!mayAdd) { return; } int index = find(place);"),
            Sentence.described(REPLACED, SentencesOfOpening::replacedAmongFourEntries)
                .brokenBy("boolean mayAdd) { int index = find(place);",
                    "boolean mayAdd) { if (count >= MAX_ENTRIES) { return; } int index = find(place);"),
            Sentence.described(REPLACED, SentencesOfOpening::aReplacedEntryIsGone)
                .brokenBy("boolean mayAdd) { int index = find(place);", "boolean mayAdd) { int index = NONE;")
                .brokenBy("ticks[index] = tick;", "ticks[index] = Math.max(ticks[index], 1);")
                .brokenBy("cookies[index] = cookie; ticks[index]",
                    "cookies[index] = index < count - 1 ? cookies[index] : cookie; ticks[index]"),
            Sentence.described("Otherwise it keeps nothing.", SentencesOfOpening::nothingIsKeptUnderLoad)
                .brokenBy("if (!mayAdd || count >= MAX_ENTRIES) { return; }",
                    "if (count >= MAX_ENTRIES) { return; }")
                .brokenBy("if (!mayAdd || count >= MAX_ENTRIES) { return; }",
                    "if (!mayAdd || count >= MAX_ENTRIES) { count = 0; return; }"),
            Sentence.described("Otherwise it keeps nothing.", SentencesOfOpening::nothingIsKeptAmongFourEntries)
                .brokenBy("if (!mayAdd || count >= MAX_ENTRIES) { return; } index = count; count++;",
                    "if (!mayAdd) { return; } index = Math.min(count, MAX_ENTRIES - 1); count = index + 1;"),
            Sentence.described("A half-open entry expires when its age reaches 20 ticks", SentencesOfOpening::expiresAtAge20)
                .brokenBy("ENTRY_LIFE = 20", "ENTRY_LIFE = 19")
                .brokenBy("ENTRY_LIFE = 20", "ENTRY_LIFE = 21"),
            Sentence.described(REMOVED, SentencesOfOpening::removedByALongPause)
                .brokenBy("tick - ticks[i] < ENTRY_LIFE", "tick - ticks[i] != ENTRY_LIFE"),
            Sentence.described(REMOVED, SentencesOfOpening::theOthersStayInTheirOrder)
                .brokenBy("if (tick - ticks[i] < ENTRY_LIFE) { move(i, kept);", "if (tick - ticks[i] < ENTRY_LIFE) {")
                .brokenBy("if (tick - ticks[i] < ENTRY_LIFE) { move(i, kept); kept++; }",
                    "if (tick - ticks[i] >= ENTRY_LIFE) { count = kept; return; } kept++;"),
            Sentence.described(REMOVED, SentencesOfOpening::anExpiredEntryGivesRoom)
                .brokenBy("if (!mayAdd || count >= MAX_ENTRIES) { return; } index = count; count++;",
                    "if (!mayAdd || ticks[MAX_ENTRIES - 1] > 0) { return; } index = count; count++;")
                .brokenBy("entries.expire(tick);", "if (ticks > 1) { entries.expire(tick); }"),
            Sentence.described(REMOVED, SentencesOfOpening::anExpiredEntryConnectsNoMore)
                .brokenBy("ENTRY_LIFE = 20", "ENTRY_LIFE = 22")
                .brokenBy("if (now.entries.holds(place, cookie)) {",
                    "if (now.entries.holds(place, cookie) || now.entries.cookies[0] == cookie) {"),
            Sentence.promised(4, "`client`: 0 to 15", SentencesOfOpening::rangeOfClient)
                .brokenBy("if (!isPlace(client, port) || !isWithin(wish",
                    "if (!isWithin(port, 0, PORTS - 1) || client < 0 || !isWithin(wish")
                .brokenBy("if (!isPlace(client, port) || !isWithin(wish",
                    "if (!isWithin(port, 0, PORTS - 1) || client >= CLIENTS || !isWithin(wish"),
            Sentence.promised(4, "`port`: 0 to 7", SentencesOfOpening::rangeOfPort)
                .brokenBy("if (!isPlace(client, port) || !isWithin(wish", "if (!isClient(client) || port < 0 || !isWithin(wish")
                .brokenBy("if (!isPlace(client, port) || !isWithin(wish",
                    "if (!isClient(client) || port >= PORTS || !isWithin(wish"),
            Sentence.promised(4, "`wish`: wish for the segment size, 64 to 9999", SentencesOfOpening::rangeOfWish)
                .brokenRange("isWithin(wish, ", "MIN_WISH", "MAX_WISH"),
            Sentence.promised(4, "OUT_OF_RANGE if an argument is out of range", SentencesOfOpening::allArgumentsWrong)
                .brokenBy("!isWithin(wish, MIN_WISH, MAX_WISH)) { return fail(OUT_OF_RANGE); }",
                    "!isWithin(wish, MIN_WISH, MAX_WISH)) { return OUT_OF_RANGE; }")
                .brokenBy("!isWithin(wish, MIN_WISH, MAX_WISH)) { return fail(OUT_OF_RANGE); }",
                    "!isWithin(wish, MIN_WISH, MAX_WISH)) { history.save(now); return fail(OUT_OF_RANGE); }"),
            Sentence.promised(4, "CONNECTED if the port is connected", SentencesOfOpening::aConnectedPortIsRefused)
                .brokenBy("return fail(CONNECTED); } history.save(now); int stamp",
                    "history.save(now); return fail(CONNECTED); } history.save(now); int stamp")
                .brokenBy("if (now.ports.isConnected(place)) { return fail(CONNECTED); } history.save(now); int stamp",
                    "if (now.ports.countOf(client) > 0) { return fail(CONNECTED); } history.save(now); int stamp")
                .brokenBy("if (now.ports.isConnected(place)) { return fail(CONNECTED); } history.save(now); int stamp",
                    "history.save(now); int stamp"),
            Sentence.promised(9, "Returns the number of entries, 0 to 4.", SentencesOfOpening::noEntryAndFour)
                .brokenBy("public int halfOpen() { return now.entries.count;",
                    "public int halfOpen() { return Math.min(now.entries.count, 3);")
                .brokenBy("public int halfOpen() { return now.entries.count;",
                    "public int halfOpen() { return Math.max(now.entries.count, 1);"),
            Sentence.promised(10, "`client`: 0 to 15", SentencesOfOpening::rangeOfEntryAgeClient)
                .brokenBy("entryAge(int client, int port) { if (!isPlace(client, port))",
                    "entryAge(int client, int port) { if (!isWithin(port, 0, PORTS - 1))"),
            Sentence.promised(10, "`port`: 0 to 7", SentencesOfOpening::rangeOfEntryAgePort)
                .brokenBy("entryAge(int client, int port) { if (!isPlace(client, port))",
                    "entryAge(int client, int port) { if (!isClient(client))"),
            Sentence.promised(10, "Returns the number of ticks since the entry was kept", SentencesOfOpening::ages0To19)
                .brokenBy("return index >= 0 ? tick - ticks[index] : NONE;",
                    "return index >= 0 ? Math.max(tick - ticks[index], 1) : NONE;")
                .brokenBy("return index >= 0 ? tick - ticks[index] : NONE;",
                    "return index >= 0 ? Math.min(tick - ticks[index], 18) : NONE;")
                .brokenBy("return index >= 0 ? tick - ticks[index] : NONE;",
                    "return index > 0 ? tick - ticks[index] : NONE;"),
            Sentence.promised(10, "NONE if there is no entry", SentencesOfOpening::noEntryHasNoAge)
                .brokenBy("return index >= 0 ? tick - ticks[index] : NONE;",
                    "return index >= 0 ? tick - ticks[index] : 0;")
                .brokenBy("return now.entries.ageOf(placeOf(client, port), now.tick);",
                    "int age = now.entries.ageOf(placeOf(client, port), now.tick); return age >= 0 ? age : fail(OUT_OF_RANGE);"),
            Sentence.promised(10, "OUT_OF_RANGE if an argument is out of range", SentencesOfOpening::ageWithBothArgumentsWrong)
                .brokenBy("entryAge(int client, int port) { if (!isPlace(client, port)) { return fail(OUT_OF_RANGE);",
                    "entryAge(int client, int port) { if (!isPlace(client, port)) { return NONE;")
                .brokenBy("entryAge(int client, int port) { if (!isPlace(client, port)) { return fail(OUT_OF_RANGE);",
                    "entryAge(int client, int port) { if (!isPlace(client, port)) { return OUT_OF_RANGE;"));
    }

    private static void keptBelowLoad12() {
        CookieServer eleven = Given.loaded(10);
        eleven.open(0, 0, 64);
        Expect.that("load", eleven.load(), 11);
        Expect.that("kept with load 11", eleven.entryAge(0, 0), 0);
        CookieServer twelve = Given.loaded(11);
        twelve.open(0, 0, 64);
        Expect.that("load", twelve.load(), 12);
        Expect.that("not kept with load 12", twelve.entryAge(0, 0), -1);
        twelve.advance(16);
        twelve.open(0, 0, 64);
        Expect.that("kept when the load is gone", twelve.entryAge(0, 0), 0);
    }

    private static void fourEntriesAreKept() {
        CookieServer s = new CookieServer();
        for (int i = 0; i < 4; i++) {
            s.open(i, 0, 64);
            Expect.that("entry " + (i + 1) + " is kept", s.entryAge(i, 0), 0);
        }
        s.open(4, 0, 64);
        Expect.that("a fifth is not", s.entryAge(4, 0), -1);
        Expect.that("entries", s.halfOpen(), 4);
    }

    private static void entriesOfTheOutermostPlaces() {
        CookieServer s = new CookieServer();
        s.advance(9);
        int first = s.open(0, 0, 64);
        int last = s.open(15, 7, 9999);
        Expect.that("first place", s.entryAge(0, 0), 0);
        Expect.that("last place", s.entryAge(15, 7), 0);
        Expect.that("accept at the first place", s.accept(0, 0, first, 0), 64);
        Expect.that("accept at the last place", s.accept(15, 7, last, 0), 1460);
        Expect.that("both by their entries", s.work(), 0);
    }

    private static void replacedUnderLoad() {
        for (int load : new int[] {11, 12, 100}) {
            CookieServer s = new CookieServer();
            s.open(0, 0, 64);
            s.advance(3);
            Expect.flood(s, 1, 0, load);
            int cookie = s.open(0, 0, 1460);
            Expect.that("age after load " + load, s.entryAge(0, 0), 0);
            Expect.that("entries", s.halfOpen(), 2);
            Expect.that("the new cookie is in the entry", s.accept(0, 0, cookie, 0), 1460);
            Expect.that("no work", s.work(), 0);
        }
    }

    private static void replacedAmongFourEntries() {
        for (int i = 0; i < 4; i++) {
            CookieServer s = fourEntries();
            int cookie = s.open(i, 0, 536);
            Expect.that("four entries", s.halfOpen(), 4);
            for (int other = 0; other < 4; other++) {
                Expect.that("age of " + other, s.entryAge(other, 0), other == i ? 0 : 4 - other);
            }
            Expect.that("the new cookie is in the entry", s.accept(i, 0, cookie, 0), 536);
            Expect.that("no work", s.work(), 0);
        }
    }

    // The entries of (0, 0) to (3, 0), with the ages 4 to 1.
    private static CookieServer fourEntries() {
        CookieServer s = new CookieServer();
        for (int i = 0; i < 4; i++) {
            s.open(i, 0, 64);
            s.advance(1);
        }
        return s;
    }

    private static void aReplacedEntryIsGone() {
        CookieServer s = new CookieServer();
        s.advance(30);
        int old = s.open(0, 0, 64);
        s.advance(1);
        s.open(1, 0, 64);
        s.advance(18);
        int fresh = s.open(0, 0, 128);
        Expect.that("the age begins anew", s.entryAge(0, 0), 0);
        Expect.that("as many entries as before", s.halfOpen(), 2);
        s.advance(1);
        Expect.that("the old entry's time does not count", s.entryAge(0, 0), 1);
        Expect.that("the old cookie is accepted as a cookie alone", s.accept(0, 0, old, 0), 64);
        Expect.that("with work", s.work(), 1);
        s.close(0, 0);
        Expect.that("the new cookie is in the entry", s.accept(0, 0, fresh, 0), 128);
        Expect.that("without work", s.work(), 1);
    }

    private static void nothingIsKeptUnderLoad() {
        CookieServer s = Given.loaded(11);
        int cookie = s.open(0, 0, 64);
        Expect.that("the answer is the cookie all the same", cookie, Expect.cookie(1, 0, 0, 0, 0));
        Expect.that("the only entry is the old one", s.halfOpen(), 1);
        Expect.that("the old one", s.entryAge(15, 7), 0);
        Expect.that("the cookie alone must be solved", s.accept(0, 0, cookie, Expect.noSolution(cookie, 1)), -6);
    }

    private static void nothingIsKeptAmongFourEntries() {
        CookieServer s = fourEntries();
        int cookie = s.open(9, 0, 64);
        Expect.that("the answer is the cookie all the same", cookie, Expect.cookie(1, 9, 0, 0, 0));
        for (int i = 0; i < 4; i++) {
            Expect.that("the old entry " + i, s.entryAge(i, 0), 4 - i);
        }
        Expect.that("no fifth", s.entryAge(9, 0), -1);
        Expect.that("the cookie alone", s.accept(9, 0, cookie, 0), 64);
        Expect.that("with work", s.work(), 1);
    }

    private static void expiresAtAge20() {
        CookieServer s = new CookieServer();
        s.advance(50);
        s.open(0, 0, 64);
        s.advance(19);
        Expect.that("age 19", s.entryAge(0, 0), 19);
        Expect.that("one entry", s.halfOpen(), 1);
        s.advance(1);
        Expect.that("age 20", s.entryAge(0, 0), -1);
        Expect.that("no entry", s.halfOpen(), 0);
    }

    private static void removedByALongPause() {
        for (int pause : new int[] {20, 21, 40, 1000}) {
            CookieServer s = new CookieServer();
            s.open(0, 0, 64);
            s.advance(pause);
            Expect.that("after " + pause + " ticks", s.halfOpen(), 0);
        }
    }

    private static void theOthersStayInTheirOrder() {
        CookieServer s = fourEntries();
        s.advance(10);
        int first = s.open(0, 0, 128);
        int third = s.open(2, 0, 128);
        s.advance(8);
        Expect.that("the second is removed at tick 21", s.halfOpen(), 3);
        s.advance(1);
        Expect.that("the fourth is removed at tick 23", s.halfOpen(), 2);
        Expect.that("first", s.entryAge(0, 0), 9);
        Expect.that("second", s.entryAge(1, 0), -1);
        Expect.that("third", s.entryAge(2, 0), 9);
        Expect.that("fourth", s.entryAge(3, 0), -1);
        Expect.that("the third connects", s.accept(2, 0, third, 0), 128);
        Expect.that("the first connects", s.accept(0, 0, first, 0), 128);
        Expect.that("by their entries", s.work(), 0);
    }

    private static void anExpiredEntryGivesRoom() {
        CookieServer s = fourEntries();
        s.advance(15);
        s.open(9, 0, 64);
        Expect.that("no room at age 19", s.entryAge(9, 0), -1);
        s.advance(1);
        Expect.that("three entries", s.halfOpen(), 3);
        s.open(9, 0, 64);
        Expect.that("room at age 20", s.entryAge(9, 0), 0);
        Expect.that("four entries", s.halfOpen(), 4);
    }

    private static void anExpiredEntryConnectsNoMore() {
        CookieServer s = new CookieServer();
        int cookie = s.open(0, 0, 64);
        s.advance(20);
        Expect.that("by the cookie alone", s.accept(0, 0, cookie, 0), 64);
        Expect.that("with work", s.work(), 1);
        Expect.that("remembered", s.remembered(), 1);
    }

    private static void rangeOfClient() {
        Expect.range("client of open", 0, 15, (s, client) -> s.open(client, 0, 64));
    }

    private static void rangeOfPort() {
        Expect.range("port of open", 0, 7, (s, port) -> s.open(0, port, 64));
    }

    private static void rangeOfWish() {
        Expect.range("wish of open", 64, 9999, (s, wish) -> s.open(0, 0, wish));
    }

    private static void allArgumentsWrong() {
        CookieServer s = Given.busy();
        Expect.refused("open", s, -2, () -> s.open(-1, -1, 63));
        Expect.refused("open", s, -2, () -> s.open(16, 8, 10000));
        Expect.refused("open of a connected port", s, -2, () -> s.open(1, 1, 63));
    }

    private static void aConnectedPortIsRefused() {
        CookieServer s = Given.busy();
        Expect.refused("open of a port connected by its entry", s, -3, () -> s.open(1, 1, 64));
        Expect.refused("open of a port connected by its cookie", s, -3, () -> s.open(2, 2, 9999));
        Expect.that("another port of the client", s.open(1, 2, 64), Expect.cookie(Given.KEY, 1, 2, 0, Given.EPOCH));
        Expect.that("a half-open port", s.open(3, 3, 64), Expect.cookie(Given.KEY, 3, 3, 0, Given.EPOCH));
        s.close(1, 1);
        Expect.that("a closed port", s.open(1, 1, 64), Expect.cookie(Given.KEY, 1, 1, 0, Given.EPOCH));
    }

    private static void noEntryAndFour() {
        CookieServer s = new CookieServer();
        Expect.that("none", s.halfOpen(), 0);
        for (int i = 0; i < 8; i++) {
            s.open(0, i, 64);
            Expect.that("after opening " + (i + 1), s.halfOpen(), Math.min(i + 1, 4));
        }
    }

    private static void rangeOfEntryAgeClient() {
        Expect.range("client of entryAge", 0, 15, (s, client) -> s.entryAge(client, 0));
    }

    private static void rangeOfEntryAgePort() {
        Expect.range("port of entryAge", 0, 7, (s, port) -> s.entryAge(0, port));
    }

    private static void ages0To19() {
        CookieServer s = new CookieServer();
        s.advance(1000);
        s.open(0, 0, 64);
        for (int age = 0; age < 20; age++) {
            Expect.that("age", s.entryAge(0, 0), age);
            s.advance(1);
        }
    }

    private static void noEntryHasNoAge() {
        CookieServer s = Given.busy();
        long before = s.digest();
        Expect.that("never opened", s.entryAge(0, 0), -1);
        Expect.that("another port", s.entryAge(3, 2), -1);
        Expect.that("another client", s.entryAge(2, 3), -1);
        Expect.that("connected", s.entryAge(1, 1), -1);
        Expect.that("NONE is no error", s.digest(), before);
        s.advance(20);
        Expect.that("expired", s.entryAge(3, 3), -1);
    }

    private static void ageWithBothArgumentsWrong() {
        CookieServer s = Given.busy();
        Expect.refused("entryAge", s, -2, () -> s.entryAge(-1, -1));
        Expect.refused("entryAge", s, -2, () -> s.entryAge(16, 8));
    }
}
