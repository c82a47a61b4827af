import java.util.concurrent.Callable;

/** What the tests share: comparing answers, and objects in states that many tests begin with. */
final class Check {
    private int wrong = 0;

    void due(String what, long got, long want) {
        if (got != want) {
            report(what + " answered " + got + ", due is " + want);
        }
    }

    void due(String what, boolean got, boolean want) {
        due(what, got ? 1 : 0, want ? 1 : 0);
    }

    void refused(String what, Class<? extends Exception> due, Callable<?> call) {
        String got;
        try {
            got = "answered " + call.call();
        } catch (Exception e) {
            if (e.getClass() == due) {
                return;
            }
            got = "threw " + e;
        }
        report(what + " " + got + ", due is " + due.getSimpleName());
    }

    void noNode(String what, Callable<?> call) {
        refused(what, IndexOutOfBoundsException.class, call);
    }

    void badState(String what, Callable<?> call) {
        refused(what, IllegalStateException.class, call);
    }

    void badArgument(String what, Callable<?> call) {
        refused(what, IllegalArgumentException.class, call);
    }

    void unsupported(String what, Callable<?> call) {
        refused(what, UnsupportedOperationException.class, call);
    }

    void nothingThere(String what, Callable<?> call) {
        refused(what, java.util.NoSuchElementException.class, call);
    }

    void report(String text) {
        wrong++;
        System.out.println(text);
    }

    void end() {
        if (wrong != 0) {
            System.out.println(wrong + " answers are not as due");
            System.exit(1);
        }
    }

    static Object following(ShippedLog log, int node, int primary) {
        log.follow(node, primary);
        return "nothing";
    }

    static ShippedLog allUp() {
        ShippedLog log = new ShippedLog();
        for (int node = 0; node < 4; node++) {
            log.up(node);
        }
        return log;
    }

    /** All nodes are up, and node 0 is primary with its timeline record alone. */
    static ShippedLog primary() {
        ShippedLog log = allUp();
        log.promote(0);
        return log;
    }

    /** Node 0 is primary, node 1 follows it with an empty log; nodes 2 and 3 are idle. */
    static ShippedLog pair() {
        ShippedLog log = primary();
        log.follow(1, 0);
        return log;
    }

    /** Sends and delivers until the primary has nothing to send and no answer is on its way. */
    static void ship(ShippedLog log, int primary, int replica) {
        while (log.link(primary, replica, 0) < log.node(primary, 1)) {
            log.send(primary, replica);
            log.deliver(primary, replica);
            log.deliver(replica, primary);
        }
    }

    /** The primary's log becomes full: 256 records. An object has 512 calls, so these are few. */
    static void fill(ShippedLog log, int primary) {
        int records = (4096 - log.node(primary, 1)) / 16;
        for (int i = 0; i < records; i++) {
            log.put(primary, i % 16, i + 1);
        }
    }

    /** All nodes are up, and node 0 is primary with a full log. */
    static ShippedLog fullPrimary() {
        ShippedLog log = primary();
        fill(log, 0);
        return log;
    }

    /** Node 0 is down, and its disk is full. */
    static ShippedLog fullDown() {
        ShippedLog log = fullPrimary();
        log.crash(0, 4096);
        return log;
    }

    /** Node 0 is idle with a full log. */
    static ShippedLog fullIdle() {
        ShippedLog log = fullDown();
        log.up(0);
        return log;
    }

    /** Node 0 is primary with a full log, node 1 has all of it: 64 messages each way, 454 calls. */
    static ShippedLog fullPair() {
        ShippedLog log = pair();
        fill(log, 0);
        for (int i = 0; i < 64; i++) {
            log.send(0, 1);
            log.deliver(0, 1);
            log.deliver(1, 0);
        }
        return log;
    }

    /** 16 messages of a record each are on their way from node 0 to node 1. */
    static ShippedLog sixteenSent() {
        ShippedLog log = pair();
        for (int i = 0; i < 16; i++) {
            log.send(0, 1);
        }
        return log;
    }

    /** 16 answers are on their way from node 1 to node 0, and nothing the other way. */
    static ShippedLog sixteenAnswers() {
        ShippedLog log = pair();
        for (int i = 0; i < 16; i++) {
            log.send(0, 1);
            log.deliver(0, 1);
        }
        return log;
    }

    /** 16 answers are on their way, and a message that would be written, but whose answer finds no room. */
    static ShippedLog noRoomForAnswer() {
        ShippedLog log = sixteenAnswers();
        log.send(0, 1);
        log.deliver(1, 0);
        log.put(0, 1, 1);
        log.send(0, 1);
        log.deliver(0, 1);
        return log;
    }

    /** 16 messages are on their way, and node 1 has told that it has all. */
    static ShippedLog sixteenSentOfNothingNew() {
        ShippedLog log = sixteenSent();
        log.deliver(0, 1);
        log.send(0, 1);
        log.deliver(1, 0);
        return log;
    }

    /** Node 0 is primary, node 1 its replica, node 2 idle, node 3 down. */
    static ShippedLog everyRole() {
        ShippedLog log = pair();
        log.crash(3, 0);
        return log;
    }

    /** Nodes 0 and 2 are primaries on timelines 1 and 2, node 1 follows 0, node 3 follows 2. */
    static ShippedLog twoPairs() {
        ShippedLog log = pair();
        log.promote(2);
        log.follow(3, 2);
        return log;
    }

    /** Node 1 is idle with a record of timeline 1 that the primaries 0 (32 bytes) and 2 (16) don't have. */
    static ShippedLog apart() {
        ShippedLog log = pair();
        log.put(0, 1, 1);
        ship(log, 0, 1);
        log.crash(0, 0);
        log.up(0);
        log.promote(0);
        log.promote(2);
        return log;
    }

    /** Timelines 1 to 255 are used, nodes 0 (timeline 1) and 1 (timeline 255) are primaries: 510 calls. */
    static ShippedLog allTimelines() {
        ShippedLog log = new ShippedLog();
        log.up(0);
        log.up(1);
        log.promote(0);
        log.promote(1);
        for (int timeline = 3; timeline <= 255; timeline++) {
            log.rewind(1, 0);
            log.promote(1);
        }
        return log;
    }
}
