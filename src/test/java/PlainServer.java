import java.util.ArrayDeque;
import java.util.ArrayList;
import java.util.Deque;
import java.util.List;
import java.util.Map;
import java.util.TreeMap;

/**
 * A second reading of the document, written for plainness alone: lists that are copied whole, time
 * that passes tick by tick. RandomRunsTest holds the program against it.
 */
final class PlainServer {
    private static final int[] SIZES = {64, 128, 256, 536, 1024, 1360, 1440, 1460};

    private record Entry(int client, int port, int cookie, int tick) {
    }

    private record Used(int client, int port, int cookie) {
    }

    private static final class Memory {
        int tick = 0;
        int key = 1;
        Integer oldKey = null;
        int work = 0;
        int pointer = 0;
        boolean hasGotCredit = false;
        List<Integer> openTicks = new ArrayList<>();
        List<Entry> entries = new ArrayList<>();
        Map<Integer, Integer> options = new TreeMap<>();
        List<Used> used = new ArrayList<>();
        List<List<Integer>> queues = new ArrayList<>();
        int[] credit = new int[16];
        int[] served = new int[16];

        Memory() {
            for (int i = 0; i < 16; i++) {
                queues.add(new ArrayList<>());
            }
        }

        Memory copy() {
            Memory m = new Memory();
            m.tick = tick;
            m.key = key;
            m.oldKey = oldKey;
            m.work = work;
            m.pointer = pointer;
            m.hasGotCredit = hasGotCredit;
            m.openTicks = new ArrayList<>(openTicks);
            m.entries = new ArrayList<>(entries);
            m.options = new TreeMap<>(options);
            m.used = new ArrayList<>(used);
            for (int i = 0; i < 16; i++) {
                m.queues.set(i, new ArrayList<>(queues.get(i)));
            }
            m.credit = credit.clone();
            m.served = served.clone();
            return m;
        }
    }

    private Memory m = new Memory();
    private final Deque<Memory> saved = new ArrayDeque<>();
    private final Map<Integer, Integer> errors = new TreeMap<>();

    private int error(int code) {
        errors.merge(code, 1, Integer::sum);
        return code;
    }

    private void save(Memory before) {
        saved.addLast(before);
        if (saved.size() > 3) {
            saved.removeFirst();
        }
    }

    private static boolean out(int v, int low, int high) {
        return v < low || v > high;
    }

    private static boolean badSocket(int client, int port) {
        return out(client, 0, 15) || out(port, 0, 7);
    }

    int advance(int ticks) {
        if (out(ticks, 0, 1000)) {
            return error(-2);
        }
        save(m.copy());
        for (int i = 0; i < ticks; i++) {
            m.tick++;
            m.entries.removeIf(e -> m.tick - e.tick() >= 20);
            if (m.tick % 64 == 0) {
                m.used.removeIf(u -> age(u.cookie()) > 1);
            }
        }
        return m.tick;
    }

    int rotateKey(int key) {
        if (out(key, 0, 65520)) {
            return error(-2);
        }
        save(m.copy());
        m.oldKey = m.key;
        m.key = key;
        return m.oldKey;
    }

    int open(int client, int port, int wish) {
        if (badSocket(client, port) || out(wish, 64, 9999)) {
            return error(-2);
        }
        if (m.options.containsKey(client * 8 + port)) {
            return error(-3);
        }
        save(m.copy());
        int option = 7;
        while (SIZES[option] > wish) {
            option--;
        }
        int cookie = Expect.cookie(m.key, client, port, option, epoch());
        m.openTicks.add(m.tick);
        Entry fresh = new Entry(client, port, cookie, m.tick);
        int at = entryIndex(client, port);
        if (at >= 0) {
            m.entries.set(at, fresh);
        } else if (load() < 12 && m.entries.size() < 4) {
            m.entries.add(fresh);
        }
        return cookie;
    }

    private int entryIndex(int client, int port) {
        for (int i = 0; i < m.entries.size(); i++) {
            if (m.entries.get(i).client() == client && m.entries.get(i).port() == port) {
                return i;
            }
        }
        return -1;
    }

    int accept(int client, int port, int cookie, int solution) {
        if (badSocket(client, port) || out(cookie, 0, 1048575) || out(solution, 0, 9999)) {
            return error(-2);
        }
        Memory before = m.copy();
        if (m.options.containsKey(client * 8 + port)) {
            return error(-3);
        }
        if (m.options.size() >= 10) {
            return error(-4);
        }
        int stamp = cookie / 32768;
        int option = cookie / 4096 % 8;
        int at = entryIndex(client, port);
        if (at >= 0 && m.entries.get(at).cookie() == cookie) {
            m.entries.remove(at);
        } else {
            if (age(cookie) > 1) {
                return error(-5);
            }
            if (difficulty() > 0) {
                m.work++;
                if (Expect.digestOf(0, cookie, solution) % (1 << difficulty()) != 0) {
                    return error(-6);
                }
            }
            m.work++;
            if (Expect.digestOf(m.key, client, port, stamp, option) != cookie % 4096) {
                if (m.oldKey == null) {
                    return error(-7);
                }
                m.work++;
                if (Expect.digestOf(m.oldKey, client, port, stamp, option) != cookie % 4096) {
                    return error(-7);
                }
            }
            Used use = new Used(client, port, cookie);
            if (m.used.contains(use)) {
                return error(-8);
            }
            m.used.add(use);
            if (m.used.size() > 20) {
                m.used.remove(0);
            }
        }
        m.options.put(client * 8 + port, option);
        save(before);
        return SIZES[option];
    }

    int close(int client, int port) {
        if (badSocket(client, port)) {
            return error(-2);
        }
        if (!m.options.containsKey(client * 8 + port)) {
            return error(-9);
        }
        save(m.copy());
        m.options.remove(client * 8 + port);
        int left = connectionsOf(client);
        if (left == 0) {
            m.queues.get(client).clear();
            m.credit[client] = 0;
        }
        return left;
    }

    private int connectionsOf(int client) {
        return (int) m.options.keySet().stream().filter(place -> place / 8 == client).count();
    }

    int segmentSize(int client, int port) {
        if (badSocket(client, port)) {
            return error(-2);
        }
        Integer option = m.options.get(client * 8 + port);
        return option == null ? -1 : SIZES[option];
    }

    int connections() {
        return m.options.size();
    }

    int halfOpen() {
        return m.entries.size();
    }

    int entryAge(int client, int port) {
        if (badSocket(client, port)) {
            return error(-2);
        }
        int at = entryIndex(client, port);
        return at < 0 ? -1 : m.tick - m.entries.get(at).tick();
    }

    int remembered() {
        return m.used.size();
    }

    int epoch() {
        return m.tick / 64;
    }

    int load() {
        return (int) m.openTicks.stream().filter(t -> t > m.tick - 16).count();
    }

    int difficulty() {
        return Math.min(6, load() / 8);
    }

    int solve(int cookie, int difficulty, int from) {
        if (out(cookie, 0, 1048575) || out(difficulty, 0, 6) || out(from, 0, 9999)) {
            return error(-2);
        }
        int s = from;
        while (s <= 9999 && Expect.digestOf(0, cookie, s) % (1 << difficulty) != 0) {
            s++;
        }
        return s <= 9999 ? s : -1;
    }

    private int age(int cookie) {
        int difference = epoch() - cookie / 32768;
        while (difference < 0) {
            difference += 32;
        }
        return difference % 32;
    }

    int cookieAge(int cookie) {
        return out(cookie, 0, 1048575) ? error(-2) : age(cookie);
    }

    int cookieSize(int cookie) {
        return out(cookie, 0, 1048575) ? error(-2) : SIZES[cookie / 4096 % 8];
    }

    int work() {
        return m.work;
    }

    int request(int client, int size) {
        if (out(client, 0, 15) || out(size, 1, 9)) {
            return error(-2);
        }
        if (m.queues.get(client).size() == 8) {
            return error(-4);
        }
        if (connectionsOf(client) == 0) {
            return error(-9);
        }
        save(m.copy());
        m.queues.get(client).add(size);
        return m.queues.get(client).size();
    }

    int serve(int budget) {
        if (out(budget, 0, 200)) {
            return error(-2);
        }
        save(m.copy());
        int rest = budget;
        int count = 0;
        while (m.queues.stream().anyMatch(q -> !q.isEmpty())) {
            int c = m.pointer;
            List<Integer> queue = m.queues.get(c);
            if (queue.isEmpty()) {
                m.credit[c] = 0;
                movePointer();
                continue;
            }
            if (!m.hasGotCredit) {
                m.credit[c] += 4;
                m.hasGotCredit = true;
            }
            while (!queue.isEmpty() && queue.get(0) <= m.credit[c]) {
                if (queue.get(0) > rest) {
                    return count;
                }
                int size = queue.remove(0);
                m.credit[c] -= size;
                rest -= size;
                m.served[c] += size;
                count++;
            }
            if (queue.isEmpty()) {
                m.credit[c] = 0;
            }
            movePointer();
        }
        return count;
    }

    private void movePointer() {
        m.pointer = m.pointer == 15 ? 0 : m.pointer + 1;
        m.hasGotCredit = false;
    }

    int queued(int client) {
        return out(client, 0, 15) ? error(-2) : m.queues.get(client).size();
    }

    int credit(int client) {
        return out(client, 0, 15) ? error(-2) : m.credit[client];
    }

    int served(int client) {
        return out(client, 0, 15) ? error(-2) : m.served[client];
    }

    int shareBits(int client) {
        if (out(client, 0, 15)) {
            return error(-2);
        }
        int all = 0;
        for (int size : m.served) {
            all += size;
        }
        return all == 0 ? Float.floatToIntBits(0.0f) : Float.floatToIntBits((float) m.served[client] / (float) all);
    }

    int undo() {
        if (saved.isEmpty()) {
            return error(-10);
        }
        m = saved.removeLast();
        return saved.size();
    }

    int errorCount(int code) {
        return out(code, -10, -2) ? error(-2) : errors.getOrDefault(code, 0);
    }

    long digest() {
        List<Integer> v = new ArrayList<>();
        for (int code = -2; code >= -10; code--) {
            v.add(errors.getOrDefault(code, 0));
        }
        v.addAll(List.of(m.tick, m.key, m.oldKey == null ? -1 : m.oldKey, load(), difficulty(), m.entries.size()));
        for (Entry e : m.entries) {
            v.addAll(List.of(e.client(), e.port(), e.cookie(), m.tick - e.tick()));
        }
        v.add(m.options.size());
        for (int place = 0; place < 128; place++) {
            v.add(m.options.getOrDefault(place, -1) + 1);
        }
        v.add(m.used.size());
        m.used.forEach(u -> v.add(u.cookie()));
        v.addAll(List.of(m.work, m.pointer));
        for (int c = 0; c < 16; c++) {
            v.add(m.queues.get(c).size());
            v.addAll(m.queues.get(c));
            v.addAll(List.of(m.credit[c], m.served[c]));
        }
        v.add(saved.size());
        long h = 2741;
        for (int value : v) {
            h = 31 * h + value;
        }
        return h;
    }
}
