import java.util.ArrayList;
import java.util.List;
import java.util.NoSuchElementException;
import java.util.function.Function;
import java.util.function.Supplier;

/**
 * Every exception that a promise names, and of each two that a call can meet at once the first one told.
 * A refused call changes nothing: what is seen of the object is what is seen of one without the call.
 */
public final class RefusedCallsTest {
    private static final Class<? extends Exception> NO_INDEX = IndexOutOfBoundsException.class;
    private static final Class<? extends Exception> STATE = IllegalStateException.class;
    private static final Class<? extends Exception> ARGUMENT = IllegalArgumentException.class;
    private static final Class<? extends Exception> UNSUPPORTED = UnsupportedOperationException.class;
    private static final Class<? extends Exception> NOTHING = NoSuchElementException.class;

    private static final int MIN = Integer.MIN_VALUE;
    private static final int MAX = Integer.MAX_VALUE;

    /** With the longest way to a state (454 calls) and the refused call it stays below 512. */
    private static final int SEEN_AT_ONCE = 50;

    private final Check check = new Check();
    private final List<Function<ShippedLog, Object>> seen = everythingSeen();
    private Supplier<ShippedLog> state;

    public static void main(String[] args) {
        RefusedCallsTest test = new RefusedCallsTest();
        test.upAndCrash();
        test.promote();
        test.follow();
        test.rewind();
        test.put();
        test.commit();
        test.standby();
        test.send();
        test.deliverAndDrop();
        test.apply();
        test.get();
        test.byteAtAndNode();
        test.link();
        test.check.end();
    }

    private void upAndCrash() {
        state = Check::everyRole;
        due(STATE, "up of a primary", log -> log.up(0));
        due(STATE, "up of a replica", log -> log.up(1));
        due(STATE, "up of an idle node", log -> log.up(2));
        due(NO_INDEX, "crash: no node comes before n below 0", log -> log.crash(4, -1));
        due(ARGUMENT, "crash: n -1", log -> log.crash(0, -1));
        due(ARGUMENT, "crash: n far below 0", log -> log.crash(0, MIN));
        due(ARGUMENT, "crash: n below 0 comes before down", log -> log.crash(3, -1));
        due(STATE, "crash of a node that is down", log -> log.crash(3, 0));
    }

    private void promote() {
        state = Check::everyRole;
        due(STATE, "promote of a node that is down", log -> log.promote(3));
        due(STATE, "promote of a primary", log -> log.promote(0));
        state = Check::fullIdle;
        due(UNSUPPORTED, "promote with a full log", log -> log.promote(0));
        state = Check::fullPair;
        due(UNSUPPORTED, "promote of a replica with a full log", log -> log.promote(1));
        due(STATE, "promote: primary comes before a full log", log -> log.promote(0));
        state = Check::fullDown;
        due(STATE, "promote: down comes before a full log", log -> log.promote(0));
    }

    private void follow() {
        state = Check::everyRole;
        due(NO_INDEX, "follow: no node comes before down", log -> Check.following(log, 3, 4));
        due(NO_INDEX, "follow: no node comes before primary", log -> Check.following(log, 0, -1));
        due(STATE, "follow of a node that is down", log -> Check.following(log, 3, 0));
        due(STATE, "follow of a primary", log -> Check.following(log, 0, 0));
        due(STATE, "follow: the other one is a replica", log -> Check.following(log, 2, 1));
        due(STATE, "follow: the other one is idle", log -> Check.following(log, 1, 2));
        due(STATE, "follow: the other one is down", log -> Check.following(log, 2, 3));
        due(STATE, "follow: an idle node itself", log -> Check.following(log, 2, 2));
        state = Check::apart;
        due(ARGUMENT, "follow: another record at a place", log -> Check.following(log, 1, 0));
        due(ARGUMENT, "follow: a log longer than the other's", log -> Check.following(log, 1, 2));
        due(STATE, "follow: no primary comes before no beginning", log -> Check.following(log, 1, 3));
        due(STATE, "follow: primary comes before no beginning", log -> Check.following(log, 0, 2));
        state = () -> {
            ShippedLog log = Check.apart();
            log.crash(1, 0);
            return log;
        };
        due(STATE, "follow: down comes before no beginning", log -> Check.following(log, 1, 0));
        state = () -> {
            ShippedLog log = Check.pair();
            Check.ship(log, 0, 1);
            log.promote(2);
            return log;
        };
        due(ARGUMENT, "follow of a replica with no beginning", log -> Check.following(log, 1, 2));
        due(STATE, "follow of a replica: no primary comes first", log -> Check.following(log, 1, 3));
    }

    private void rewind() {
        state = Check::everyRole;
        due(NO_INDEX, "rewind: no node comes before down", log -> log.rewind(3, 4));
        due(NO_INDEX, "rewind: no node comes first", log -> log.rewind(-1, 3));
        due(STATE, "rewind of a node that is down", log -> log.rewind(3, 0));
        due(STATE, "rewind: the other one is a replica", log -> log.rewind(2, 1));
        due(STATE, "rewind: the other one is idle", log -> log.rewind(0, 2));
        due(STATE, "rewind: the other one is down", log -> log.rewind(0, 3));
        due(STATE, "rewind: both are one primary", log -> log.rewind(0, 0));
        due(STATE, "rewind: both are one replica", log -> log.rewind(1, 1));
    }

    private void put() {
        state = Check::everyRole;
        due(NO_INDEX, "put: no node comes before no key", log -> log.put(4, 16, 0));
        due(STATE, "put to a replica", log -> log.put(1, 0, 0));
        due(STATE, "put to an idle node", log -> log.put(2, 0, 0));
        due(STATE, "put to a node that is down", log -> log.put(3, 0, 0));
        due(STATE, "put: no primary comes before no key", log -> log.put(2, 16, 0));
        due(ARGUMENT, "put: key 16", log -> log.put(0, 16, 0));
        due(ARGUMENT, "put: key -1", log -> log.put(0, -1, 0));
        due(ARGUMENT, "put: a key far above", log -> log.put(0, MAX, 0));
        due(ARGUMENT, "put: a key far below", log -> log.put(0, MIN, 0));
        state = Check::fullPair;
        due(UNSUPPORTED, "put to a full log", log -> log.put(0, 15, 0));
        due(ARGUMENT, "put: no key comes before a full log", log -> log.put(0, 16, 0));
        due(STATE, "put: replica comes before a full log", log -> log.put(1, 0, 0));
        state = Check::fullIdle;
        due(STATE, "put: idle comes before a full log", log -> log.put(0, 0, 0));
        due(STATE, "put: idle comes before no key and a full log", log -> log.put(0, -1, 0));
    }

    private void commit() {
        state = Check::everyRole;
        due(STATE, "commit of a replica", log -> log.commit(1));
        due(STATE, "commit of an idle node", log -> log.commit(2));
        due(STATE, "commit of a node that is down", log -> log.commit(3));
        state = Check::fullPair;
        due(UNSUPPORTED, "commit with a full log", log -> log.commit(0));
        due(STATE, "commit: replica comes before a full log", log -> log.commit(1));
        state = Check::fullIdle;
        due(STATE, "commit: idle comes before a full log", log -> log.commit(0));
        state = Check::fullDown;
        due(STATE, "commit: down comes before a full log", log -> log.commit(0));
    }

    private void standby() {
        state = Check::everyRole;
        due(NO_INDEX, "standby 4", log -> log.standby(0, 4));
        due(NO_INDEX, "standby below NONE", log -> log.standby(0, -2));
        due(NO_INDEX, "standby: no such standby comes before no primary", log -> log.standby(2, -2));
        due(STATE, "standby of a replica", log -> log.standby(1, ShippedLog.NONE));
        due(STATE, "standby of an idle node", log -> log.standby(2, ShippedLog.NONE));
        due(STATE, "standby of a node that is down", log -> log.standby(3, ShippedLog.NONE));
        due(STATE, "standby: no primary comes before no replica", log -> log.standby(2, 3));
        due(ARGUMENT, "standby: the primary itself", log -> log.standby(0, 0));
        due(ARGUMENT, "standby: an idle node", log -> log.standby(0, 2));
        due(ARGUMENT, "standby: a node that is down", log -> log.standby(0, 3));
        state = Check::twoPairs;
        due(ARGUMENT, "standby: another's replica", log -> log.standby(0, 3));
        due(ARGUMENT, "standby: another primary", log -> log.standby(0, 2));
    }

    private void send() {
        state = Check::twoPairs;
        due(NO_INDEX, "send: no node comes before no replica", log -> log.send(1, 4));
        due(STATE, "send to another's replica", log -> log.send(0, 3));
        due(STATE, "send to another primary", log -> log.send(0, 2));
        due(STATE, "send to itself", log -> log.send(0, 0));
        due(STATE, "send to the own primary", log -> log.send(1, 0));
        state = Check::everyRole;
        due(STATE, "send to an idle node", log -> log.send(0, 2));
        due(STATE, "send to a node that is down", log -> log.send(0, 3));
        due(STATE, "send: no primary comes before nothing to send", log -> log.send(2, 1));
        state = Check::sixteenAnswers;
        due(STATE, "send: no primary comes before 16 messages", log -> log.send(1, 0));
        state = Check::sixteenSent;
        due(UNSUPPORTED, "send with 16 messages", log -> log.send(0, 1));
        state = Check::sixteenSentOfNothingNew;
        due(UNSUPPORTED, "send: 16 messages come before nothing to send", log -> log.send(0, 1));
        state = Check::fullPair;
        due(NOTHING, "send of nothing", log -> log.send(0, 1));
    }

    private void deliverAndDrop() {
        state = Check::noRoomForAnswer;
        due(UNSUPPORTED, "deliver: the answer finds 16 messages", log -> log.deliver(0, 1));
        due(NOTHING, "deliver: no message between others", log -> log.deliver(2, 3));
        due(NOTHING, "deliver to itself", log -> log.deliver(0, 0));
        due(NOTHING, "drop: no message between others", log -> log.drop(0, 2));
        due(NOTHING, "drop to itself", log -> log.drop(1, 1));
        state = Check::sixteenAnswers;
        due(NOTHING, "deliver: no message comes before no room for its answer", log -> log.deliver(0, 1));
        due(NOTHING, "drop: only the other way has messages", log -> log.drop(0, 1));
        state = Check::sixteenSent;
        due(NOTHING, "deliver: only the other way has messages", log -> log.deliver(1, 0));
    }

    private void apply() {
        state = Check::everyRole;
        due(NO_INDEX, "apply: no node comes before n below 1", log -> log.apply(4, 0));
        due(ARGUMENT, "apply: n 0", log -> log.apply(1, 0));
        due(ARGUMENT, "apply: n far below 1", log -> log.apply(1, MIN));
        due(ARGUMENT, "apply: n below 1 comes before no replica", log -> log.apply(0, 0));
        due(STATE, "apply of a primary", log -> log.apply(0, 1));
        due(STATE, "apply of an idle node", log -> log.apply(2, 1));
        due(STATE, "apply of a node that is down", log -> log.apply(3, 1));
    }

    private void get() {
        state = Check::everyRole;
        for (int key : new int[] {-1, 16, MIN, MAX}) {
            due(NO_INDEX, "get: no such key " + key, log -> log.get(0, key));
            due(NO_INDEX, "get: no such key comes before down " + key, log -> log.get(3, key));
        }
        due(STATE, "get of a node that is down", log -> log.get(3, 0));
    }

    private void byteAtAndNode() {
        state = Check::everyRole;
        for (int i : new int[] {-1, 4096, MIN, MAX}) {
            due(NO_INDEX, "byteAt: no such byte in memory " + i, log -> log.byteAt(0, i, 0));
            due(NO_INDEX, "byteAt: no such byte on the disk " + i, log -> log.byteAt(3, i, 1));
        }
        for (int where : new int[] {-1, 2, MIN, MAX}) {
            due(NO_INDEX, "byteAt: no such where " + where, log -> log.byteAt(0, 0, where));
        }
        for (int what : new int[] {-1, 9, MIN, MAX}) {
            due(NO_INDEX, "node: another what " + what, log -> log.node(0, what));
            due(NO_INDEX, "node that is down: another what " + what, log -> log.node(3, what));
        }
    }

    private void link() {
        state = Check::twoPairs;
        for (int what : new int[] {-1, 2, MIN, MAX}) {
            due(NO_INDEX, "link: another what " + what, log -> log.link(0, 1, what));
            due(NO_INDEX, "link: another what comes before no replica " + what, log -> log.link(0, 3, what));
        }
        due(STATE, "link: another's replica", log -> log.link(0, 3, 0));
        due(STATE, "link: another primary", log -> log.link(0, 2, 0));
        due(STATE, "link: the own primary", log -> log.link(1, 0, 0));
        due(STATE, "link: itself", log -> log.link(0, 0, 0));
        state = Check::everyRole;
        due(STATE, "link: an idle node", log -> log.link(0, 2, 0));
        due(STATE, "link: a node that is down", log -> log.link(3, 0, 0));
    }

    private void due(Class<? extends Exception> due, String what, Function<ShippedLog, Object> call) {
        for (int from = 0; from < seen.size(); from += SEEN_AT_ONCE) {
            ShippedLog refusing = state.get();
            ShippedLog twin = state.get();
            check.refused(what, due, () -> call.apply(refusing));
            for (int i = from; i < Math.min(from + SEEN_AT_ONCE, seen.size()); i++) {
                Object got = seen.get(i).apply(refusing);
                Object want = seen.get(i).apply(twin);
                if (!got.equals(want)) {
                    check.report(what + " changed what is seen (" + i + ") from " + want + " to " + got);
                }
            }
        }
    }

    private static List<Function<ShippedLog, Object>> everythingSeen() {
        List<Function<ShippedLog, Object>> seen = new ArrayList<>();
        for (int node = 0; node < 4; node++) {
            int n = node;
            for (int what = 0; what < 9; what++) {
                int w = what;
                seen.add(log -> log.node(n, w));
            }
            for (int key = 0; key < 16; key++) {
                int k = key;
                seen.add(log -> answer(() -> log.get(n, k)));
            }
            for (int to = 0; to < 4; to++) {
                int t = to;
                seen.add(log -> answer(() -> log.link(n, t, 0)));
                seen.add(log -> log.link(n, t, 1));
            }
            for (int i = 0; i < 64; i++) {
                int at = i < 48 ? i : 4032 + i;
                seen.add(log -> log.byteAt(n, at, 0));
                seen.add(log -> log.byteAt(n, at, 1));
            }
        }
        return seen;
    }

    private static Object answer(Supplier<Integer> call) {
        try {
            return call.get();
        } catch (IllegalStateException e) {
            return "refused";
        }
    }
}
