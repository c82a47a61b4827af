import java.util.NoSuchElementException;

/** Four nodes with logs of records; a primary ships its log to its replicas. See README.md. */
public final class ShippedLog {
    public static final int NONE = -1;

    private static final int NODES = 4;
    private static final int KEYS = 16;
    private static final int LAST_TIMELINE = 255;

    private static final int DOWN = 0;
    private static final int IDLE = 1;
    private static final int PRIMARY = 2;
    private static final int REPLICA = 3;

    private static final int LOG_BYTES = 4096;
    private static final int RECORD_BYTES = 16;
    private static final int SHIPPED_BYTES = 4 * RECORD_BYTES;
    private static final int WAY_MESSAGES = 16;

    private static final int PUT = 1;
    private static final int COMMIT = 2;
    private static final int TIMELINE = 3;

    private static final int TIMELINE_AT = 1;
    private static final int KEY_AT = 2;
    private static final int VALUE_AT = 4;
    private static final int POSITION_AT = 8;
    private static final int CHECKSUM_AT = 12;
    private static final int CHECKSUM_MASK = -306674912;

    private static final int ROLE_OF = 0;
    private static final int END_OF = 1;
    private static final int SYNCED_OF = 2;
    private static final int APPLIED_OF = 3;
    private static final int TIMELINE_OF = 4;
    private static final int FOLLOWED_OF = 5;
    private static final int ACKNOWLEDGED_OF = 6;
    private static final int STANDBY_OF = 7;
    private static final int PENDING_OF = 8;

    private static final int LINK_KNOWN = 0;
    private static final int LINK_MESSAGES = 1;

    private final Node[] nodes;
    private final Way[] ways;
    private int greatestTimeline;

    public ShippedLog() {
        nodes = new Node[NODES];
        for (int i = 0; i < NODES; i++) {
            nodes[i] = new Node();
        }
        ways = new Way[NODES * NODES];
        for (int i = 0; i < NODES * NODES; i++) {
            ways[i] = new Way();
        }
        greatestTimeline = 0;
    }

    public int up(int node) throws IndexOutOfBoundsException, IllegalStateException {
        Node started = nodeAt(node);
        if (started.role != DOWN) {
            throw new IllegalStateException("the node is not down");
        }
        takeRole(node, IDLE, NONE);
        started.log.loadFromDisk();
        started.applied = started.log.end;
        return started.log.end;
    }

    public int crash(int node, int n) throws IndexOutOfBoundsException, IllegalArgumentException, IllegalStateException {
        Node crashed = nodeAt(node);
        if (n < 0) {
            throw new IllegalArgumentException("a number of bytes below 0");
        }
        if (crashed.role == DOWN) {
            throw new IllegalStateException("the node is down");
        }
        int saved = crashed.log.saveFirst(n);
        takeRole(node, DOWN, NONE);
        return saved;
    }

    public int promote(int node) throws IndexOutOfBoundsException, IllegalStateException, UnsupportedOperationException {
        Node promoted = nodeAt(node);
        if (promoted.role == DOWN || promoted.role == PRIMARY) {
            throw new IllegalStateException("the node is down or primary");
        }
        requireRoom(promoted);
        if (greatestTimeline >= LAST_TIMELINE) {
            throw new UnsupportedOperationException("all timelines were used");
        }
        greatestTimeline++;
        takeRole(node, PRIMARY, NONE);
        promoted.promotedAt = promoted.log.end;
        promoted.write(TIMELINE, greatestTimeline, 0, 0);
        promoted.log.sync();
        return greatestTimeline;
    }

    public void follow(int node, int primary) throws IndexOutOfBoundsException, IllegalStateException, IllegalArgumentException {
        Node follower = nodeAt(node);
        Node followed = nodeAt(primary);
        if (follower.role == DOWN || follower.role == PRIMARY) {
            throw new IllegalStateException("the node is down or primary");
        }
        requirePrimary(followed);
        if (!follower.log.isBeginningOf(followed.log)) {
            throw new IllegalArgumentException("the log is no beginning of the primary's");
        }
        takeRole(node, REPLICA, primary);
    }

    public int rewind(int node, int primary) throws IndexOutOfBoundsException, IllegalStateException {
        Node rewound = nodeAt(node);
        Node followed = nodeAt(primary);
        if (rewound.role == DOWN || node == primary) {
            throw new IllegalStateException("the node is down, or both are one");
        }
        requirePrimary(followed);
        int endBefore = rewound.log.end;
        rewound.log.cutTo(rewound.log.sharedWith(followed.log));
        rewound.applied = rewound.log.end;
        takeRole(node, REPLICA, primary);
        return endBefore - rewound.log.end;
    }

    public int put(int node, int key, int value) throws IndexOutOfBoundsException, IllegalStateException, IllegalArgumentException, UnsupportedOperationException {
        Node writer = nodeAt(node);
        requirePrimary(writer);
        if (!isKey(key)) {
            throw new IllegalArgumentException("no such key");
        }
        requireRoom(writer);
        int position = writer.log.end;
        writer.write(PUT, writer.log.lastTimeline(), key, value);
        return position;
    }

    public boolean commit(int node) throws IndexOutOfBoundsException, IllegalStateException, UnsupportedOperationException {
        Node writer = nodeAt(node);
        requirePrimary(writer);
        requireRoom(writer);
        writer.write(COMMIT, writer.log.lastTimeline(), 0, 0);
        writer.log.sync();
        writer.acknowledgeUpTo(safePosition(writer));
        return writer.acknowledged == writer.log.end;
    }

    public int standby(int node, int standby) throws IndexOutOfBoundsException, IllegalStateException, IllegalArgumentException {
        Node primary = nodeAt(node);
        if (standby != NONE && !isNode(standby)) {
            throw new IndexOutOfBoundsException("no such standby");
        }
        requirePrimary(primary);
        if (standby != NONE && !isReplicaOf(standby, node)) {
            throw new IllegalArgumentException("the standby is no replica of the node");
        }
        int before = primary.standby;
        primary.standby = standby;
        primary.acknowledgeUpTo(safePosition(primary));
        return before;
    }

    public int send(int node, int replica) throws IndexOutOfBoundsException, IllegalStateException, UnsupportedOperationException, java.util.NoSuchElementException {
        Node sender = nodeAt(node);
        Node receiver = nodeAt(replica);
        requireLink(node, replica);
        Way way = wayFrom(node, replica);
        if (way.isFull()) {
            throw new UnsupportedOperationException("the way is full of messages");
        }
        int bytes = Math.min(sender.log.end - receiver.known, SHIPPED_BYTES);
        if (bytes <= 0) {
            throw new NoSuchElementException("nothing to send");
        }
        way.add(receiver.known, bytes);
        return bytes / RECORD_BYTES;
    }

    public int deliver(int from, int to) throws IndexOutOfBoundsException, java.util.NoSuchElementException, UnsupportedOperationException {
        requireMessage(from, to);
        if (isReplicaOf(from, to)) {
            return deliverPosition(from, to);
        }
        return deliverRecords(from, to);
    }

    public int drop(int from, int to) throws IndexOutOfBoundsException, java.util.NoSuchElementException {
        requireMessage(from, to);
        Way way = wayFrom(from, to);
        way.removeOldest();
        return way.count;
    }

    public int apply(int node, int n) throws IndexOutOfBoundsException, IllegalArgumentException, IllegalStateException {
        Node replica = nodeAt(node);
        if (n < 1) {
            throw new IllegalArgumentException("a number of records below 1");
        }
        if (replica.role != REPLICA) {
            throw new IllegalStateException("the node is no replica");
        }
        int records = Math.min(n, (replica.log.end - replica.applied) / RECORD_BYTES);
        replica.applied += records * RECORD_BYTES;
        return records;
    }

    public int get(int node, int key) throws IndexOutOfBoundsException, IllegalStateException {
        Node asked = nodeAt(node);
        if (!isKey(key)) {
            throw new IndexOutOfBoundsException("no such key");
        }
        if (asked.role == DOWN) {
            throw new IllegalStateException("the node is down");
        }
        return asked.committedValue(key);
    }

    public int byteAt(int node, int i, int where) throws IndexOutOfBoundsException {
        Node asked = nodeAt(node);
        if (i < 0 || i >= LOG_BYTES) {
            throw new IndexOutOfBoundsException("no such byte");
        }
        if (where == 0) {
            return asked.log.memory[i] & 255;
        }
        if (where == 1) {
            return asked.log.disk[i] & 255;
        }
        throw new IndexOutOfBoundsException("neither memory nor disk");
    }

    public int node(int node, int what) throws IndexOutOfBoundsException {
        Node asked = nodeAt(node);
        if (what < ROLE_OF || what > PENDING_OF) {
            throw new IndexOutOfBoundsException("nothing that is told of a node");
        }
        if (asked.role == DOWN) {
            return what == FOLLOWED_OF || what == STANDBY_OF ? NONE : 0;
        }
        return factOf(asked, what);
    }

    public int link(int from, int to, int what) throws IndexOutOfBoundsException, IllegalStateException {
        nodeAt(from);
        Node receiver = nodeAt(to);
        if (what == LINK_MESSAGES) {
            return wayFrom(from, to).count;
        }
        if (what != LINK_KNOWN) {
            throw new IndexOutOfBoundsException("nothing that is told of a link");
        }
        requireLink(from, to);
        return receiver.known;
    }

    private static boolean isNode(int node) {
        return node >= 0 && node < NODES;
    }

    private static boolean isKey(int key) {
        return key >= 0 && key < KEYS;
    }

    private Node nodeAt(int node) {
        if (!isNode(node)) {
            throw new IndexOutOfBoundsException("no such node");
        }
        return nodes[node];
    }

    private Way wayFrom(int from, int to) {
        if (!isNode(from) || !isNode(to)) {
            throw new IndexOutOfBoundsException("no such node");
        }
        return ways[from * NODES + to];
    }

    private boolean isReplicaOf(int replica, int primary) {
        Node asked = nodeAt(replica);
        return asked.role == REPLICA && asked.follows == primary;
    }

    private static void requirePrimary(Node asked) {
        if (asked.role != PRIMARY) {
            throw new IllegalStateException("the node is no primary");
        }
    }

    private static void requireRoom(Node writer) {
        if (writer.log.isFull()) {
            throw new UnsupportedOperationException("the log is full");
        }
    }

    private void requireLink(int primary, int replica) {
        if (!isReplicaOf(replica, primary)) {
            throw new IllegalStateException("not a primary and a replica of it");
        }
    }

    private void requireMessage(int from, int to) {
        if (wayFrom(from, to).count == 0) {
            throw new NoSuchElementException("no message");
        }
    }

    private static int factOf(Node asked, int what) {
        switch (what) {
            case ROLE_OF:
                return asked.role;
            case END_OF:
                return asked.log.end;
            case SYNCED_OF:
                return asked.log.synced;
            case APPLIED_OF:
                return asked.applied;
            case TIMELINE_OF:
                return asked.log.lastTimeline();
            case FOLLOWED_OF:
                return asked.follows;
            case ACKNOWLEDGED_OF:
                return asked.acknowledged;
            case STANDBY_OF:
                return asked.standby;
            default:
                return asked.pendingPuts();
        }
    }

    private void takeRole(int node, int role, int follows) {
        Node changed = nodeAt(node);
        leaveStandby(node);
        if (changed.role == PRIMARY) {
            releaseReplicas(node);
        }
        changed.standby = NONE;
        changed.acknowledged = 0;
        changed.known = changed.log.end;
        changeRole(node, role, follows);
    }

    private void changeRole(int node, int role, int follows) {
        Node changed = nodeAt(node);
        // A node that follows its primary anew changes neither, and keeps its messages.
        if (changed.role != role || changed.follows != follows) {
            loseMessages(node);
        }
        changed.role = role;
        changed.follows = follows;
    }

    private void leaveStandby(int node) {
        for (int i = 0; i < NODES; i++) {
            if (nodes[i].standby == node) {
                nodes[i].standby = NONE;
            }
        }
    }

    private void releaseReplicas(int primary) {
        for (int i = 0; i < NODES; i++) {
            if (isReplicaOf(i, primary)) {
                changeRole(i, IDLE, NONE);
            }
        }
    }

    private void loseMessages(int node) {
        for (int i = 0; i < NODES; i++) {
            wayFrom(node, i).clear();
            wayFrom(i, node).clear();
        }
    }

    private int safePosition(Node primary) {
        return primary.standby == NONE ? primary.log.end : nodeAt(primary.standby).known;
    }

    private int deliverPosition(int replica, int primary) {
        Node teller = nodeAt(replica);
        Node told = nodeAt(primary);
        Way way = wayFrom(replica, primary);
        teller.known = way.oldestPosition();
        way.removeOldest();
        if (told.standby == replica) {
            told.acknowledgeUpTo(teller.known);
        }
        return teller.known;
    }

    private int deliverRecords(int primary, int replica) {
        Node sender = nodeAt(primary);
        Node receiver = nodeAt(replica);
        Way way = wayFrom(primary, replica);
        Way back = wayFrom(replica, primary);
        if (back.isFull()) {
            throw new UnsupportedOperationException("the way back is full of messages");
        }
        receiver.log.receive(sender.log, way.oldestPosition(), way.oldestBytes());
        way.removeOldest();
        back.add(receiver.log.end, 0);
        return receiver.log.end;
    }

    /** A log's bytes in memory and on the disk, and the records that they make. */
    private static final class Log {
        final byte[] memory = new byte[LOG_BYTES];
        final byte[] disk = new byte[LOG_BYTES];
        int end = 0;
        int synced = 0;

        boolean isFull() {
            return end > LOG_BYTES - RECORD_BYTES;
        }

        int kindAt(int place) {
            return byteOf(place);
        }

        int timelineAt(int place) {
            return byteOf(place + TIMELINE_AT);
        }

        int keyAt(int place) {
            return byteOf(place + KEY_AT) << 8 | byteOf(place + KEY_AT + 1);
        }

        int valueAt(int place) {
            return intAt(place + VALUE_AT);
        }

        int lastTimeline() {
            return end == 0 ? 0 : timelineAt(end - RECORD_BYTES);
        }

        void append(int kind, int timeline, int key, int value) {
            if (isFull()) {
                return;
            }
            setByte(end, kind);
            setByte(end + TIMELINE_AT, timeline);
            setByte(end + KEY_AT, key >>> 8);
            setByte(end + KEY_AT + 1, key);
            setInt(end + VALUE_AT, value);
            setInt(end + POSITION_AT, end);
            setInt(end + CHECKSUM_AT, checksumAt(end));
            end += RECORD_BYTES;
        }

        void sync() {
            saveFirst(end - synced);
            synced = end;
        }

        /** Of what is not synced, the first bytes come to the disk: how many. */
        int saveFirst(int limit) {
            int saved = Math.min(limit, end - synced);
            copy(memory, disk, synced, saved);
            return saved;
        }

        void loadFromDisk() {
            copy(disk, memory, 0, LOG_BYTES);
            end = 0;
            while (end < LOG_BYTES && hasGoodRecord(end, lastTimeline())) {
                end += RECORD_BYTES;
            }
            synced = end;
        }

        /**
         * Messages hold only where the records stand: a primary's memory before its end stays as it
         * is while it is primary, and its messages are lost when it is primary no more.
         */
        void receive(Log sender, int position, int bytes) {
            if (position != end || bytes < 0 || bytes > LOG_BYTES - end) {
                return;
            }
            copy(sender.memory, memory, end, bytes);
            end += bytes;
            sync();
        }

        boolean isBeginningOf(Log other) {
            return sharedWith(other) == end;
        }

        /** How many bytes of whole records both logs begin with. */
        int sharedWith(Log other) {
            int limit = Math.min(end, other.end);
            int shared = 0;
            while (shared < limit && hasRecordOf(other, shared)) {
                shared += RECORD_BYTES;
            }
            return shared;
        }

        /** Also what was not synced of the part that stays comes to the disk. */
        void cutTo(int newEnd) {
            if (newEnd < 0 || newEnd > end) {
                return;
            }
            end = newEnd;
            synced = newEnd;
            for (int i = newEnd; i < LOG_BYTES; i++) {
                setByte(i, 0);
            }
            copy(memory, disk, 0, LOG_BYTES);
        }

        /** What is copied stands at the same place in both. */
        private static void copy(byte[] from, byte[] to, int place, int count) {
            if (place >= 0 && count > 0 && place <= LOG_BYTES - count) {
                System.arraycopy(from, place, to, place, count);
            }
        }

        private boolean hasRecordOf(Log other, int place) {
            for (int i = place; i < place + RECORD_BYTES; i++) {
                if (byteOf(i) != other.byteOf(i)) {
                    return false;
                }
            }
            return true;
        }

        private boolean hasGoodRecord(int place, int timelineBefore) {
            if (place < 0 || place > LOG_BYTES - RECORD_BYTES) {
                return false;
            }
            int kind = kindAt(place);
            int timeline = timelineAt(place);
            boolean goesOn = timeline == timelineBefore;
            boolean begins = timeline > timelineBefore && kind == TIMELINE;
            return kind >= PUT && kind <= TIMELINE
                && (goesOn || begins)
                && intAt(place + POSITION_AT) == place
                && intAt(place + CHECKSUM_AT) == checksumAt(place);
        }

        private int checksumAt(int place) {
            int sum = -1;
            for (int i = place; i < place + CHECKSUM_AT; i++) {
                sum ^= byteOf(i);
                for (int bit = 0; bit < 8; bit++) {
                    sum = (sum & 1) == 1 ? sum >>> 1 ^ CHECKSUM_MASK : sum >>> 1;
                }
            }
            return ~sum;
        }

        private int byteOf(int i) {
            return i >= 0 && i < LOG_BYTES ? memory[i] & 255 : 0;
        }

        private void setByte(int i, int value) {
            if (i >= 0 && i < LOG_BYTES) {
                memory[i] = (byte) value;
            }
        }

        private int intAt(int i) {
            return byteOf(i) << 24 | byteOf(i + 1) << 16 | byteOf(i + 2) << 8 | byteOf(i + 3);
        }

        private void setInt(int i, int value) {
            setByte(i, value >>> 24);
            setByte(i + 1, value >>> 16);
            setByte(i + 2, value >>> 8);
            setByte(i + 3, value);
        }
    }

    /** A node: its log, its role, and what it is to the others. */
    private static final class Node {
        final Log log = new Log();
        int role = DOWN;
        int applied = 0;
        int follows = NONE;
        /** What the primary that is followed knows of this node. */
        int known = 0;
        int standby = NONE;
        int acknowledged = 0;
        /** Where the primary's own records begin: commits before it are another's. */
        int promotedAt = 0;

        /** A primary applies what it writes at once. */
        void write(int kind, int timeline, int key, int value) {
            log.append(kind, timeline, key, value);
            applied = log.end;
        }

        /** What was safe once stays so, also when an older position is told. */
        void acknowledgeUpTo(int position) {
            int limit = Math.min(position, log.end);
            for (int place = promotedAt; place < limit; place += RECORD_BYTES) {
                if (log.kindAt(place) == COMMIT) {
                    acknowledged = Math.max(acknowledged, place + RECORD_BYTES);
                }
            }
        }

        int committedValue(int key) {
            int committed = 0;
            int last = 0;
            for (int place = 0; place < applied; place += RECORD_BYTES) {
                int kind = log.kindAt(place);
                if (kind == PUT && log.keyAt(place) == key) {
                    last = log.valueAt(place);
                } else if (kind == COMMIT) {
                    committed = last;
                } else if (kind == TIMELINE) {
                    last = committed;
                }
            }
            return committed;
        }

        int pendingPuts() {
            int puts = 0;
            for (int place = 0; place < applied; place += RECORD_BYTES) {
                puts = log.kindAt(place) == PUT ? puts + 1 : 0;
            }
            return puts;
        }
    }

    /** The messages from one node to another, the oldest first. */
    private static final class Way {
        final int[] positions = new int[WAY_MESSAGES];
        /** Of a message that tells a position alone, 0. */
        final int[] bytes = new int[WAY_MESSAGES];
        int oldest = 0;
        int count = 0;

        boolean isFull() {
            return count >= WAY_MESSAGES;
        }

        void add(int position, int recordBytes) {
            if (isFull()) {
                return;
            }
            int newest = slot(count);
            positions[newest] = position;
            bytes[newest] = recordBytes;
            count++;
        }

        int oldestPosition() {
            return positions[slot(0)];
        }

        int oldestBytes() {
            return bytes[slot(0)];
        }

        void removeOldest() {
            if (count > 0) {
                oldest = slot(1);
                count--;
            }
        }

        void clear() {
            oldest = 0;
            count = 0;
        }

        /** Where a message stands that has so many older ones before it. */
        private int slot(int older) {
            return Math.floorMod(oldest + older, WAY_MESSAGES);
        }
    }
}
