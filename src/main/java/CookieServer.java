/**
 * A simulator of a server that resists connection floods. What each method promises stands in the
 * project's document; the comments here tell only why the code is as it is.
 */
public final class CookieServer {
    public static final int OUT_OF_RANGE = -2;
    public static final int CONNECTED = -3;
    public static final int FULL = -4;
    public static final int STALE = -5;
    public static final int UNSOLVED = -6;
    public static final int FORGED = -7;
    public static final int REPLAYED = -8;
    public static final int NOT_CONNECTED = -9;
    public static final int NOTHING_SAVED = -10;
    public static final int NONE = -1;

    private static final int CLIENTS = 16;
    private static final int PORTS = 8;
    private static final int PLACES = CLIENTS * PORTS;
    private static final int EPOCH_TICKS = 64;
    private static final int MAX_TICKS = 1000;

    private static final int MODULUS = 65521;
    private static final int FACTOR = 16807;
    private static final int MARKS = 4096;
    private static final int OPTIONS = 8;
    private static final int STAMPS = 32;
    private static final int COOKIES = STAMPS * OPTIONS * MARKS;
    private static final int SOLUTIONS = 10000;
    private static final int FRESH_AGE = 1;
    private static final int[] SEGMENT_SIZES = {64, 128, 256, 536, 1024, 1360, 1440, 1460};
    private static final int MIN_WISH = 64;
    private static final int MAX_WISH = 9999;

    private static final int LOAD_TICKS = 16;
    private static final int LOAD_PER_DIFFICULTY = 8;
    private static final int MAX_DIFFICULTY = 6;
    private static final int CALM_LOAD = 12;
    private static final int MAX_ENTRIES = 4;
    private static final int ENTRY_LIFE = 20;
    private static final int MAX_CONNECTIONS = 10;
    private static final int MAX_USED = 20;
    private static final int FIRST_KEY = 1;

    private static final int MAX_SIZE = 9;
    private static final int MAX_QUEUE = 8;
    private static final int MAX_BUDGET = 200;
    private static final int GRANT = 4;

    private static final int FLOAT_EXPONENT_OF_ONE = 127;
    private static final int FLOAT_FRACTIONS = 8388608;

    private static final int MAX_SAVED = 3;
    private static final int ERROR_CODES = 9;
    private static final long HASH_START = 2741L;

    private State now;
    private final History history;
    private final int[] errors;

    public CookieServer() {
        now = new State();
        history = new History();
        errors = new int[ERROR_CODES];
    }

    // ---- time and keys

    public int advance(int ticks) {
        if (!isWithin(ticks, 0, MAX_TICKS)) {
            return fail(OUT_OF_RANGE);
        }
        history.save(now);
        now.pass(ticks);
        return now.tick;
    }

    public int rotateKey(int key) {
        if (!isWithin(key, 0, MODULUS - 1)) {
            return fail(OUT_OF_RANGE);
        }
        history.save(now);
        now.previousKey = now.presentKey;
        now.presentKey = key;
        return now.previousKey;
    }

    // ---- connections

    public int open(int client, int port, int wish) {
        if (!isPlace(client, port) || !isWithin(wish, MIN_WISH, MAX_WISH)) {
            return fail(OUT_OF_RANGE);
        }
        int place = placeOf(client, port);
        if (now.ports.isConnected(place)) {
            return fail(CONNECTED);
        }
        history.save(now);
        int stamp = Math.floorMod(now.currentEpoch(), STAMPS);
        int cookie = Cookies.make(now.presentKey, place, stamp, Cookies.optionForWish(wish));
        now.openings.countAt(now.tick);
        boolean mayAdd = now.openings.total() < CALM_LOAD;
        now.entries.keep(place, cookie, now.tick, mayAdd);
        return cookie;
    }

    public int accept(int client, int port, int cookie, int solution) {
        if (!isPlace(client, port) || !isCookie(cookie) || !isWithin(solution, 0, SOLUTIONS - 1)) {
            return fail(OUT_OF_RANGE);
        }
        int place = placeOf(client, port);
        if (now.ports.isConnected(place)) {
            return fail(CONNECTED);
        }
        if (now.ports.isFull()) {
            return fail(FULL);
        }
        if (now.entries.holds(place, cookie)) {
            history.save(now);
            now.entries.drop(place);
            return connect(place, cookie);
        }
        return acceptByCookie(place, cookie, solution);
    }

    // The state is saved only when all checks have held, so the work is added up aside until then:
    // the saved state must not contain it.
    private int acceptByCookie(int place, int cookie, int solution) {
        if (Cookies.age(cookie, now.currentEpoch()) > FRESH_AGE) {
            return fail(STALE);
        }
        int difficulty = now.currentDifficulty();
        int cost = difficulty > 0 ? 1 : 0;
        if (difficulty > 0 && !Cookies.isSolution(cookie, difficulty, solution)) {
            return failAfterWork(UNSOLVED, cost);
        }
        boolean genuine = Cookies.isMarkedWith(now.presentKey, place, cookie);
        cost++;
        if (!genuine && now.previousKey != NONE) {
            genuine = Cookies.isMarkedWith(now.previousKey, place, cookie);
            cost++;
        }
        if (!genuine) {
            return failAfterWork(FORGED, cost);
        }
        if (now.used.contains(place, cookie)) {
            return failAfterWork(REPLAYED, cost);
        }
        history.save(now);
        now.workDone += cost;
        now.used.add(place, cookie);
        return connect(place, cookie);
    }

    private int connect(int place, int cookie) {
        int option = Cookies.optionOf(cookie);
        now.ports.connect(place, option);
        return Cookies.sizeOfOption(option);
    }

    public int close(int client, int port) {
        if (!isPlace(client, port)) {
            return fail(OUT_OF_RANGE);
        }
        int place = placeOf(client, port);
        if (!now.ports.isConnected(place)) {
            return fail(NOT_CONNECTED);
        }
        history.save(now);
        now.ports.disconnect(place);
        int left = now.ports.countOf(client);
        if (left == 0) {
            now.service.dismiss(client);
        }
        return left;
    }

    public int segmentSize(int client, int port) {
        if (!isPlace(client, port)) {
            return fail(OUT_OF_RANGE);
        }
        int place = placeOf(client, port);
        return now.ports.isConnected(place) ? Cookies.sizeOfOption(now.ports.optionAt(place)) : NONE;
    }

    public int connections() {
        return now.ports.total;
    }

    public int halfOpen() {
        return now.entries.count;
    }

    public int entryAge(int client, int port) {
        if (!isPlace(client, port)) {
            return fail(OUT_OF_RANGE);
        }
        return now.entries.ageOf(placeOf(client, port), now.tick);
    }

    public int remembered() {
        return now.used.count;
    }

    // ---- cookies and puzzles

    public int epoch() {
        return now.currentEpoch();
    }

    public int load() {
        return now.openings.total();
    }

    public int difficulty() {
        return now.currentDifficulty();
    }

    public int solve(int cookie, int difficulty, int from) {
        if (!isCookie(cookie) || !isWithin(difficulty, 0, MAX_DIFFICULTY) || !isWithin(from, 0, SOLUTIONS - 1)) {
            return fail(OUT_OF_RANGE);
        }
        for (int solution = from; solution < SOLUTIONS; solution++) {
            if (Cookies.isSolution(cookie, difficulty, solution)) {
                return solution;
            }
        }
        return NONE;
    }

    public int cookieAge(int cookie) {
        if (!isCookie(cookie)) {
            return fail(OUT_OF_RANGE);
        }
        return Cookies.age(cookie, now.currentEpoch());
    }

    public int cookieSize(int cookie) {
        if (!isCookie(cookie)) {
            return fail(OUT_OF_RANGE);
        }
        return Cookies.sizeOfOption(Cookies.optionOf(cookie));
    }

    public int work() {
        return now.workDone;
    }

    // ---- service

    public int request(int client, int size) {
        if (!isClient(client) || !isWithin(size, 1, MAX_SIZE)) {
            return fail(OUT_OF_RANGE);
        }
        if (now.service.lengths[client] >= MAX_QUEUE) {
            return fail(FULL);
        }
        if (now.ports.countOf(client) == 0) {
            return fail(NOT_CONNECTED);
        }
        history.save(now);
        now.service.enqueue(client, size);
        return now.service.lengths[client];
    }

    public int serve(int budget) {
        if (!isWithin(budget, 0, MAX_BUDGET)) {
            return fail(OUT_OF_RANGE);
        }
        history.save(now);
        return now.service.spend(budget);
    }

    public int queued(int client) {
        return isClient(client) ? now.service.lengths[client] : fail(OUT_OF_RANGE);
    }

    public int credit(int client) {
        return isClient(client) ? now.service.credits[client] : fail(OUT_OF_RANGE);
    }

    public int served(int client) {
        return isClient(client) ? now.service.totals[client] : fail(OUT_OF_RANGE);
    }

    public int shareBits(int client) {
        if (!isClient(client)) {
            return fail(OUT_OF_RANGE);
        }
        int whole = now.service.totalOfAll();
        if (whole <= 0) {
            return 0;
        }
        return bitsOfShare((float) now.service.totals[client] / (float) whole);
    }

    // ---- state

    public int undo() {
        if (history.count == 0) {
            return fail(NOTHING_SAVED);
        }
        now = history.takeBack(now);
        return history.count;
    }

    public int errorCount(int code) {
        if (!isWithin(code, NOTHING_SAVED, OUT_OF_RANGE)) {
            return fail(OUT_OF_RANGE);
        }
        return errors[OUT_OF_RANGE - code];
    }

    public long digest() {
        long hash = HASH_START;
        for (int i = 0; i < ERROR_CODES; i++) {
            hash = mix(hash, errors[i]);
        }
        return mix(now.mixInto(hash), history.count);
    }

    // ---- helpers

    private int fail(int code) {
        if (isWithin(code, NOTHING_SAVED, OUT_OF_RANGE)) {
            errors[OUT_OF_RANGE - code]++;
        }
        return code;
    }

    private int failAfterWork(int code, int cost) {
        now.workDone += cost;
        return fail(code);
    }

    private static boolean isWithin(int value, int least, int greatest) {
        return value >= least && value <= greatest;
    }

    private static boolean isClient(int client) {
        return isWithin(client, 0, CLIENTS - 1);
    }

    private static boolean isPlace(int client, int port) {
        return isClient(client) && isWithin(port, 0, PORTS - 1);
    }

    private static boolean isCookie(int cookie) {
        return isWithin(cookie, 0, COOKIES - 1);
    }

    // A client and a port together make one number, a place, by which all tables are indexed.
    private static int placeOf(int client, int port) {
        return client * PORTS + port;
    }

    private static long mix(long hash, long value) {
        return 31L * hash + value;
    }

    // Float.floatToIntBits is outside the language rules. A share lies between 0 and 1 and is never
    // subnormal, and scaling by 2 is exact, so exponent and fraction can be read off by arithmetic.
    private static int bitsOfShare(float share) {
        if (share <= 0.0f) {
            return 0;
        }
        float scaled = share;
        int exponent = FLOAT_EXPONENT_OF_ONE;
        while (exponent > 1 && scaled < 1.0f) {
            scaled = scaled * 2.0f;
            exponent--;
        }
        int fraction = (int) (scaled * (float) FLOAT_FRACTIONS) - FLOAT_FRACTIONS;
        return exponent * FLOAT_FRACTIONS + fraction;
    }

    /** The arithmetic of cookies and puzzles; it has no state. */
    private static final class Cookies {
        static int make(int key, int place, int stamp, int option) {
            return (stamp * OPTIONS + option) * MARKS + mark(key, place, stamp, option);
        }

        static int mark(int key, int place, int stamp, int option) {
            int x = step(key, place / PORTS);
            x = step(x, place % PORTS);
            x = step(x, stamp);
            x = step(x, option);
            return x % MARKS;
        }

        // x stays below 65521 and a value below 2 to the power of 20, so an int does not overflow.
        static int step(int x, int value) {
            return (x * FACTOR + value + 1) % MODULUS;
        }

        static int stampOf(int cookie) {
            return cookie / (OPTIONS * MARKS);
        }

        static int optionOf(int cookie) {
            return cookie / MARKS % OPTIONS;
        }

        static boolean isMarkedWith(int key, int place, int cookie) {
            return cookie % MARKS == mark(key, place, stampOf(cookie), optionOf(cookie));
        }

        static int age(int cookie, int epoch) {
            return Math.floorMod(epoch - stampOf(cookie), STAMPS);
        }

        static boolean isSolution(int cookie, int difficulty, int solution) {
            int digest = step(step(0, cookie), solution) % MARKS;
            int lowBits = (1 << difficulty) - 1;
            return (digest & lowBits) == 0;
        }

        static int optionForWish(int wish) {
            int option = 0;
            for (int i = 1; i < OPTIONS; i++) {
                if (SEGMENT_SIZES[i] <= wish) {
                    option = i;
                }
            }
            return option;
        }

        static int sizeOfOption(int option) {
            return isWithin(option, 0, OPTIONS - 1) ? SEGMENT_SIZES[option] : NONE;
        }
    }

    /** All that undo brings back. */
    private static final class State {
        private int tick;
        private int presentKey;
        private int previousKey;
        private int workDone;
        private final Openings openings;
        private final Entries entries;
        private final Ports ports;
        private final UsedCookies used;
        private final Service service;

        State() {
            tick = 0;
            presentKey = FIRST_KEY;
            previousKey = NONE;
            workDone = 0;
            openings = new Openings();
            entries = new Entries();
            ports = new Ports();
            used = new UsedCookies();
            service = new Service();
        }

        void copyFrom(State other) {
            tick = other.tick;
            presentKey = other.presentKey;
            previousKey = other.previousKey;
            workDone = other.workDone;
            openings.copyFrom(other.openings);
            entries.copyFrom(other.entries);
            ports.copyFrom(other.ports);
            used.copyFrom(other.used);
            service.copyFrom(other.service);
        }

        int currentEpoch() {
            return tick / EPOCH_TICKS;
        }

        int currentDifficulty() {
            return Math.min(openings.total() / LOAD_PER_DIFFICULTY, MAX_DIFFICULTY);
        }

        // One call passes at most 16 epochs, so no age runs around its 32 values unseen: looking at
        // the ages once, at the end, forgets the same cookies as looking at each epoch's beginning.
        void pass(int ticks) {
            openings.pass(tick, ticks);
            tick += ticks;
            entries.expire(tick);
            used.forgetStale(currentEpoch());
        }

        long mixInto(long start) {
            long hash = mix(start, tick);
            hash = mix(hash, presentKey);
            hash = mix(hash, previousKey);
            hash = mix(hash, openings.total());
            hash = mix(hash, currentDifficulty());
            hash = entries.mixInto(hash, tick);
            hash = ports.mixInto(hash);
            hash = used.mixInto(hash);
            hash = mix(hash, workDone);
            return service.mixInto(hash);
        }
    }

    /** The saved states, the oldest first; the rows are made once and used again. */
    private static final class History {
        private final State[] states;
        private int count;

        History() {
            states = new State[MAX_SAVED];
            for (int i = 0; i < MAX_SAVED; i++) {
                states[i] = new State();
            }
            count = 0;
        }

        void save(State state) {
            if (count >= MAX_SAVED) {
                dropOldest();
            }
            states[count].copyFrom(state);
            count++;
        }

        private void dropOldest() {
            State oldest = states[0];
            for (int i = 1; i < MAX_SAVED; i++) {
                states[i - 1] = states[i];
            }
            states[MAX_SAVED - 1] = oldest;
            count = MAX_SAVED - 1;
        }

        // The given state takes the place of the one that is handed out, so that nothing is copied.
        State takeBack(State given) {
            if (count <= 0) {
                return given;
            }
            count--;
            State last = states[count];
            states[count] = given;
            return last;
        }
    }

    /** The openings of the last 16 ticks, counted in a ring by tick. */
    private static final class Openings {
        private final int[] counts;

        Openings() {
            counts = new int[LOAD_TICKS];
        }

        void copyFrom(Openings other) {
            System.arraycopy(other.counts, 0, counts, 0, LOAD_TICKS);
        }

        void countAt(int tick) {
            counts[Math.floorMod(tick, LOAD_TICKS)]++;
        }

        void pass(int tick, int ticks) {
            int cleared = Math.min(ticks, LOAD_TICKS);
            for (int i = 1; i <= cleared; i++) {
                counts[Math.floorMod(tick + i, LOAD_TICKS)] = 0;
            }
        }

        int total() {
            int sum = 0;
            for (int i = 0; i < LOAD_TICKS; i++) {
                sum += counts[i];
            }
            return sum;
        }
    }

    /** The half-open entries, in the order in which they were kept. */
    private static final class Entries {
        private final int[] places;
        private final int[] cookies;
        private final int[] ticks;
        private int count;

        Entries() {
            places = new int[MAX_ENTRIES];
            cookies = new int[MAX_ENTRIES];
            ticks = new int[MAX_ENTRIES];
            count = 0;
        }

        void copyFrom(Entries other) {
            System.arraycopy(other.places, 0, places, 0, MAX_ENTRIES);
            System.arraycopy(other.cookies, 0, cookies, 0, MAX_ENTRIES);
            System.arraycopy(other.ticks, 0, ticks, 0, MAX_ENTRIES);
            count = other.count;
        }

        private int find(int place) {
            for (int i = 0; i < count; i++) {
                if (places[i] == place) {
                    return i;
                }
            }
            return NONE;
        }

        boolean holds(int place, int cookie) {
            int index = find(place);
            return index >= 0 && cookies[index] == cookie;
        }

        int ageOf(int place, int tick) {
            int index = find(place);
            return index >= 0 ? tick - ticks[index] : NONE;
        }

        // An entry of the same place gives its row to the new one, whether one may be added or not.
        void keep(int place, int cookie, int tick, boolean mayAdd) {
            int index = find(place);
            if (index < 0) {
                if (!mayAdd || count >= MAX_ENTRIES) {
                    return;
                }
                index = count;
                count++;
            }
            places[index] = place;
            cookies[index] = cookie;
            ticks[index] = tick;
        }

        void drop(int place) {
            int kept = 0;
            for (int i = 0; i < count; i++) {
                if (places[i] != place) {
                    move(i, kept);
                    kept++;
                }
            }
            count = kept;
        }

        void expire(int tick) {
            int kept = 0;
            for (int i = 0; i < count; i++) {
                if (tick - ticks[i] < ENTRY_LIFE) {
                    move(i, kept);
                    kept++;
                }
            }
            count = kept;
        }

        private void move(int from, int to) {
            places[to] = places[from];
            cookies[to] = cookies[from];
            ticks[to] = ticks[from];
        }

        long mixInto(long start, int tick) {
            long hash = mix(start, count);
            for (int i = 0; i < count; i++) {
                hash = mix(hash, places[i] / PORTS);
                hash = mix(hash, places[i] % PORTS);
                hash = mix(hash, cookies[i]);
                hash = mix(hash, tick - ticks[i]);
            }
            return hash;
        }
    }

    /** The connections: for each place 1 plus the option, or 0 where nothing is connected. */
    private static final class Ports {
        private final int[] codes;
        private int total;

        Ports() {
            codes = new int[PLACES];
            total = 0;
        }

        void copyFrom(Ports other) {
            System.arraycopy(other.codes, 0, codes, 0, PLACES);
            total = other.total;
        }

        boolean isConnected(int place) {
            return codes[place] > 0;
        }

        boolean isFull() {
            return total >= MAX_CONNECTIONS;
        }

        int optionAt(int place) {
            return codes[place] - 1;
        }

        int countOf(int client) {
            int connected = 0;
            for (int port = 0; port < PORTS; port++) {
                if (isConnected(placeOf(client, port))) {
                    connected++;
                }
            }
            return connected;
        }

        void connect(int place, int option) {
            codes[place] = 1 + option;
            total++;
        }

        void disconnect(int place) {
            codes[place] = 0;
            total--;
        }

        long mixInto(long start) {
            long hash = mix(start, total);
            for (int place = 0; place < PLACES; place++) {
                hash = mix(hash, codes[place]);
            }
            return hash;
        }
    }

    /** The used cookies that are remembered, the oldest first. */
    private static final class UsedCookies {
        private final int[] places;
        private final int[] cookies;
        private int count;

        UsedCookies() {
            places = new int[MAX_USED];
            cookies = new int[MAX_USED];
            count = 0;
        }

        void copyFrom(UsedCookies other) {
            System.arraycopy(other.places, 0, places, 0, MAX_USED);
            System.arraycopy(other.cookies, 0, cookies, 0, MAX_USED);
            count = other.count;
        }

        boolean contains(int place, int cookie) {
            for (int i = 0; i < count; i++) {
                if (places[i] == place && cookies[i] == cookie) {
                    return true;
                }
            }
            return false;
        }

        void add(int place, int cookie) {
            if (count >= MAX_USED) {
                forgetOldest();
            }
            places[count] = place;
            cookies[count] = cookie;
            count++;
        }

        private void forgetOldest() {
            for (int i = 1; i < MAX_USED; i++) {
                places[i - 1] = places[i];
                cookies[i - 1] = cookies[i];
            }
            count = MAX_USED - 1;
        }

        void forgetStale(int epoch) {
            int kept = 0;
            for (int i = 0; i < count; i++) {
                if (Cookies.age(cookies[i], epoch) <= FRESH_AGE) {
                    places[kept] = places[i];
                    cookies[kept] = cookies[i];
                    kept++;
                }
            }
            count = kept;
        }

        long mixInto(long start) {
            long hash = mix(start, count);
            for (int i = 0; i < count; i++) {
                hash = mix(hash, cookies[i]);
            }
            return hash;
        }
    }

    /** The queues of the clients and the fair service of them. */
    private static final class Service {
        // Each round gives a waiting client 4, so a first request (at most 9) is served within three
        // rounds: the 8 requests of a queue need some 25 rounds of 16 visits. This is far above.
        private static final int MAX_VISITS = 10000;

        private final int[] sizes;
        private final int[] lengths;
        private final int[] credits;
        private final int[] totals;
        private int waiting;
        private int pointer;
        private boolean granted;

        Service() {
            sizes = new int[CLIENTS * MAX_QUEUE];
            lengths = new int[CLIENTS];
            credits = new int[CLIENTS];
            totals = new int[CLIENTS];
            waiting = 0;
            pointer = 0;
            granted = false;
        }

        void copyFrom(Service other) {
            System.arraycopy(other.sizes, 0, sizes, 0, CLIENTS * MAX_QUEUE);
            System.arraycopy(other.lengths, 0, lengths, 0, CLIENTS);
            System.arraycopy(other.credits, 0, credits, 0, CLIENTS);
            System.arraycopy(other.totals, 0, totals, 0, CLIENTS);
            waiting = other.waiting;
            pointer = other.pointer;
            granted = other.granted;
        }

        void enqueue(int client, int size) {
            if (lengths[client] >= MAX_QUEUE) {
                return;
            }
            sizes[client * MAX_QUEUE + lengths[client]] = size;
            lengths[client]++;
            waiting++;
        }

        void dismiss(int client) {
            waiting -= lengths[client];
            lengths[client] = 0;
            credits[client] = 0;
        }

        // Serving that ends for want of budget leaves the pointer and the grant as they are.
        int spend(int budget) {
            int rest = budget;
            int done = 0;
            for (int visit = 0; visit < MAX_VISITS && waiting > 0; visit++) {
                grant();
                for (int turn = 0; turn < MAX_QUEUE && isFirstCovered(); turn++) {
                    int size = sizes[pointer * MAX_QUEUE];
                    if (size > rest) {
                        return done;
                    }
                    removeFirst(size);
                    rest -= size;
                    done++;
                }
                moveOn();
            }
            return done;
        }

        private void grant() {
            if (lengths[pointer] > 0 && !granted) {
                credits[pointer] += GRANT;
                granted = true;
            }
        }

        private boolean isFirstCovered() {
            return lengths[pointer] > 0 && sizes[pointer * MAX_QUEUE] <= credits[pointer];
        }

        private void removeFirst(int size) {
            int first = pointer * MAX_QUEUE;
            lengths[pointer]--;
            for (int i = 0; i < lengths[pointer]; i++) {
                sizes[first + i] = sizes[first + i + 1];
            }
            waiting--;
            credits[pointer] -= size;
            totals[pointer] += size;
        }

        private void moveOn() {
            if (lengths[pointer] == 0) {
                credits[pointer] = 0;
            }
            pointer = (pointer + 1) % CLIENTS;
            granted = false;
        }

        int totalOfAll() {
            int sum = 0;
            for (int client = 0; client < CLIENTS; client++) {
                sum += totals[client];
            }
            return sum;
        }

        long mixInto(long start) {
            long hash = mix(start, pointer);
            for (int client = 0; client < CLIENTS; client++) {
                hash = mix(hash, lengths[client]);
                for (int i = 0; i < lengths[client]; i++) {
                    hash = mix(hash, sizes[client * MAX_QUEUE + i]);
                }
                hash = mix(hash, credits[client]);
                hash = mix(hash, totals[client]);
            }
            return hash;
        }
    }
}
