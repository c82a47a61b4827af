import java.util.concurrent.Callable;

/** What the tests share: comparing answers, and objects in states that many tests begin with. */
final class Check {
    private int wrong = 0;

    void due(String what, long got, long want) {
        if (got != want) {
            report(what + " answered " + got + ", due is " + want);
        }
    }

    void due(String what, boolean got, boolean want) {
        due(what, got ? 1 : 0, want ? 1 : 0);
    }

    void refused(String what, Class<? extends Exception> due, Callable<?> call) {
        String got;
        try {
            got = "answered " + call.call();
        } catch (Exception e) {
            if (e.getClass() == due) {
                return;
            }
            got = "threw " + e;
        }
        report(what + " " + got + ", due is " + due.getSimpleName());
    }

    void noNode(String what, Callable<?> call) {
        refused(what, IndexOutOfBoundsException.class, call);
    }

    void badState(String what, Callable<?> call) {
        refused(what, IllegalStateException.class, call);
    }

    void badArgument(String what, Callable<?> call) {
        refused(what, IllegalArgumentException.class, call);
    }

    void unsupported(String what, Callable<?> call) {
        refused(what, UnsupportedOperationException.class, call);
    }

    void nothingThere(String what, Callable<?> call) {
        refused(what, java.util.NoSuchElementException.class, call);
    }

    void report(String text) {
        wrong++;
        System.out.println(text);
    }

    void end() {
        if (wrong != 0) {
            System.out.println(wrong + " answers are not as due");
            System.exit(1);
        }
    }

    static Object following(ShippedLog log, int node, int primary) {
        log.follow(node, primary);
        return "nothing";
    }

    static ShippedLog allUp() {
        ShippedLog log = new ShippedLog();
        for (int node = 0; node < 4; node++) {
            log.up(node);
        }
        return log;
    }

    /** All nodes are up, and node 0 is primary with its timeline record alone. */
    static ShippedLog primary() {
        ShippedLog log = allUp();
        log.promote(0);
        return log;
    }

    /** Node 0 is primary, node 1 follows it with an empty log; nodes 2 and 3 are idle. */
    static ShippedLog pair() {
        ShippedLog log = primary();
        log.follow(1, 0);
        return log;
    }

    /** Sends and delivers until the primary has nothing to send and no answer is on its way. */
    static void ship(ShippedLog log, int primary, int replica) {
        while (log.link(primary, replica, 0) < log.node(primary, 1)) {
            log.send(primary, replica);
            log.deliver(primary, replica);
            log.deliver(replica, primary);
        }
    }

    /** The primary's log becomes full: 256 records. */
    static void fill(ShippedLog log, int primary) {
        while (log.node(primary, 1) < 4096) {
            log.put(primary, 0, 1);
        }
    }
}
