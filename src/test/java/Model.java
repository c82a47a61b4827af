import java.nio.ByteBuffer;
import java.util.ArrayDeque;
import java.util.ArrayList;
import java.util.Arrays;
import java.util.HashMap;
import java.util.List;
import java.util.Map;
import java.util.NoSuchElementException;
import java.util.zip.CRC32;

/**
 * The document once more, held otherwise than in ShippedLog: logs are lists of records, messages have
 * copies, what a primary knows stands with the primary, and states are maps that go on record by record.
 */
final class Model {
    private static final int NONE = -1;
    private static final int FULL = 256;

    enum Role { DOWN, IDLE, PRIMARY, REPLICA }

    record Rec(int kind, int timeline, int key, int value) {
        byte[] bytes(int position) {
            ByteBuffer bytes = ByteBuffer.allocate(16);
            bytes.put((byte) kind).put((byte) timeline).putShort((short) key).putInt(value).putInt(position);
            CRC32 crc = new CRC32();
            crc.update(bytes.array(), 0, 12);
            return bytes.putInt((int) crc.getValue()).array();
        }
    }

    record Message(int position, List<Rec> records) { }

    static final class State {
        final Map<Integer, Integer> committed = new HashMap<>();
        final List<Rec> pending = new ArrayList<>();

        void take(Rec rec) {
            if (rec.kind == 1) {
                pending.add(rec);
                return;
            }
            if (rec.kind == 2) {
                pending.forEach(put -> committed.put(put.key, put.value));
            }
            pending.clear();
        }
    }

    static final class Node {
        Role role = Role.DOWN;
        List<Rec> log = new ArrayList<>();
        int syncedRecords = 0;
        int appliedRecords = 0;
        State state = new State();
        byte[] memory = new byte[4096];
        byte[] disk = new byte[4096];
        int follows = NONE;
        int standby = NONE;
        int acknowledged = 0;
        final List<Integer> commits = new ArrayList<>();
        final Map<Integer, Integer> known = new HashMap<>();

        int end() {
            return 16 * log.size();
        }

        void add(Rec rec) {
            System.arraycopy(rec.bytes(end()), 0, memory, end(), 16);
            log.add(rec);
        }

        void sync() {
            for (int i = 16 * syncedRecords; i < end(); i++) {
                disk[i] = memory[i];
            }
            syncedRecords = log.size();
        }

        int applyRecords(int n) {
            int applied = 0;
            while (applied < n && appliedRecords < log.size()) {
                state.take(log.get(appliedRecords++));
                applied++;
            }
            return applied;
        }

        void applyAnew() {
            state = new State();
            appliedRecords = 0;
            applyRecords(FULL);
        }

        int timeline() {
            return log.isEmpty() ? 0 : log.get(log.size() - 1).timeline;
        }

        void write(Rec rec) {
            add(rec);
            applyRecords(1);
        }
    }

    private final Node[] nodes = {new Node(), new Node(), new Node(), new Node()};
    private final Map<List<Integer>, ArrayDeque<Message>> ways = new HashMap<>();
    private int timelines = 0;

    private Node at(int node) {
        if (node < 0 || node > 3) {
            throw new IndexOutOfBoundsException();
        }
        return nodes[node];
    }

    private static void state(boolean fine) {
        if (!fine) {
            throw new IllegalStateException();
        }
    }

    private static void argument(boolean fine) {
        if (!fine) {
            throw new IllegalArgumentException();
        }
    }

    private static void supported(boolean fine) {
        if (!fine) {
            throw new UnsupportedOperationException();
        }
    }

    private static void there(boolean fine) {
        if (!fine) {
            throw new NoSuchElementException();
        }
    }

    private static void index(boolean fine) {
        if (!fine) {
            throw new IndexOutOfBoundsException();
        }
    }

    private ArrayDeque<Message> way(int from, int to) {
        return ways.computeIfAbsent(List.of(from, to), key -> new ArrayDeque<>());
    }

    private void becomes(int node, Role role, int follows) {
        Node it = nodes[node];
        if (it.role == Role.REPLICA) {
            Node primary = nodes[it.follows];
            primary.known.remove(node);
            primary.standby = primary.standby == node ? NONE : primary.standby;
        }
        if (it.role != role || it.follows != follows) {
            ways.keySet().removeIf(way -> way.contains(node));
        }
        boolean wasPrimary = it.role == Role.PRIMARY;
        it.role = role;
        it.follows = follows;
        it.acknowledged = 0;
        it.commits.clear();
        if (role == Role.REPLICA) {
            nodes[follows].known.put(node, it.end());
        }
        for (int other = 0; wasPrimary && other < 4; other++) {
            if (nodes[other].role == Role.REPLICA && nodes[other].follows == node) {
                becomes(other, Role.IDLE, NONE);
            }
        }
    }

    private void acknowledge(Node primary) {
        int safe = primary.standby == NONE ? 4096 : primary.known.get(primary.standby);
        for (int commit : primary.commits) {
            if (commit <= safe && commit > primary.acknowledged) {
                primary.acknowledged = commit;
            }
        }
    }

    private static int shared(Node one, Node other) {
        int records = 0;
        while (records < one.log.size() && records < other.log.size()
                && one.log.get(records).equals(other.log.get(records))) {
            records++;
        }
        return records;
    }

    int up(int node) {
        Node it = at(node);
        state(it.role == Role.DOWN);
        becomes(node, Role.IDLE, NONE);
        it.memory = it.disk.clone();
        it.log = new ArrayList<>();
        int before = 0;
        while (it.log.size() < FULL) {
            int position = it.end();
            ByteBuffer bytes = ByteBuffer.wrap(it.disk, position, 16);
            Rec rec = new Rec(bytes.get() & 255, bytes.get() & 255, bytes.getShort() & 65535, bytes.getInt());
            boolean same = Arrays.equals(rec.bytes(position), Arrays.copyOfRange(it.disk, position, position + 16));
            if (!same || rec.kind < 1 || rec.kind > 3
                    || rec.timeline != before && (rec.timeline < before || rec.kind != 3)) {
                break;
            }
            before = rec.timeline;
            it.log.add(rec);
        }
        it.syncedRecords = it.log.size();
        it.applyAnew();
        return it.end();
    }

    int crash(int node, int n) {
        Node it = at(node);
        argument(n >= 0);
        state(it.role != Role.DOWN);
        int saved = 0;
        for (int i = 16 * it.syncedRecords; i < it.end() && saved < n; i++, saved++) {
            it.disk[i] = it.memory[i];
        }
        becomes(node, Role.DOWN, NONE);
        return saved;
    }

    int promote(int node) {
        Node it = at(node);
        state(it.role == Role.IDLE || it.role == Role.REPLICA);
        supported(it.log.size() < FULL && timelines < 255);
        becomes(node, Role.PRIMARY, NONE);
        it.applyRecords(FULL);
        it.write(new Rec(3, ++timelines, 0, 0));
        it.sync();
        return timelines;
    }

    void follow(int node, int primary) {
        Node it = at(node);
        Node other = at(primary);
        state(it.role == Role.IDLE || it.role == Role.REPLICA);
        state(other.role == Role.PRIMARY);
        argument(shared(it, other) == it.log.size());
        becomes(node, Role.REPLICA, primary);
    }

    int rewind(int node, int primary) {
        Node it = at(node);
        Node other = at(primary);
        state(it.role != Role.DOWN && other.role == Role.PRIMARY && node != primary);
        int before = it.end();
        it.log = new ArrayList<>(it.log.subList(0, shared(it, other)));
        it.syncedRecords = 0;
        it.sync();
        for (int i = it.end(); i < 4096; i++) {
            it.memory[i] = 0;
            it.disk[i] = 0;
        }
        it.applyAnew();
        becomes(node, Role.REPLICA, primary);
        return before - it.end();
    }

    int put(int node, int key, int value) {
        Node it = at(node);
        state(it.role == Role.PRIMARY);
        argument(key >= 0 && key < 16);
        supported(it.log.size() < FULL);
        it.write(new Rec(1, it.timeline(), key, value));
        return it.end() - 16;
    }

    boolean commit(int node) {
        Node it = at(node);
        state(it.role == Role.PRIMARY);
        supported(it.log.size() < FULL);
        it.write(new Rec(2, it.timeline(), 0, 0));
        it.sync();
        it.commits.add(it.end());
        acknowledge(it);
        return it.acknowledged == it.end();
    }

    int standby(int node, int standby) {
        Node it = at(node);
        if (standby != NONE) {
            at(standby);
        }
        state(it.role == Role.PRIMARY);
        argument(standby == NONE || it.known.containsKey(standby));
        int before = it.standby;
        it.standby = standby;
        acknowledge(it);
        return before;
    }

    int send(int node, int replica) {
        Node it = at(node);
        at(replica);
        state(it.role == Role.PRIMARY && it.known.containsKey(replica));
        supported(way(node, replica).size() < 16);
        int first = it.known.get(replica) / 16;
        there(first < it.log.size());
        List<Rec> records = List.copyOf(it.log.subList(first, Math.min(first + 4, it.log.size())));
        way(node, replica).add(new Message(16 * first, records));
        return records.size();
    }

    int deliver(int from, int to) {
        at(from);
        Node receiver = at(to);
        there(!way(from, to).isEmpty());
        if (receiver.role == Role.PRIMARY) {
            int position = way(from, to).remove().position;
            receiver.known.put(from, position);
            if (receiver.standby == from) {
                acknowledge(receiver);
            }
            return position;
        }
        supported(way(to, from).size() < 16);
        Message message = way(from, to).remove();
        if (message.position == receiver.end()) {
            message.records.forEach(receiver::add);
            receiver.sync();
        }
        way(to, from).add(new Message(receiver.end(), List.of()));
        return receiver.end();
    }

    int drop(int from, int to) {
        at(from);
        at(to);
        there(!way(from, to).isEmpty());
        way(from, to).remove();
        return way(from, to).size();
    }

    int apply(int node, int n) {
        Node it = at(node);
        argument(n >= 1);
        state(it.role == Role.REPLICA);
        return it.applyRecords(n);
    }

    int get(int node, int key) {
        Node it = at(node);
        index(key >= 0 && key < 16);
        state(it.role != Role.DOWN);
        return it.state.committed.getOrDefault(key, 0);
    }

    int byteAt(int node, int i, int where) {
        Node it = at(node);
        index(i >= 0 && i < 4096 && (where == 0 || where == 1));
        return Byte.toUnsignedInt(where == 0 ? it.memory[i] : it.disk[i]);
    }

    int node(int node, int what) {
        Node it = at(node);
        index(what >= 0 && what < 9);
        int[] facts = {it.role.ordinal(), it.end(), 16 * it.syncedRecords, 16 * it.appliedRecords, it.timeline(),
            it.follows, it.acknowledged, it.standby, it.state.pending.size()};
        if (it.role == Role.DOWN) {
            facts = new int[] {0, 0, 0, 0, 0, NONE, 0, NONE, 0};
        }
        return facts[what];
    }

    int link(int from, int to, int what) {
        Node it = at(from);
        at(to);
        index(what == 0 || what == 1);
        if (what == 1) {
            return way(from, to).size();
        }
        state(it.known.containsKey(to));
        return it.known.get(to);
    }
}
