public final class Promise16NodeTest {
    public static void main(String[] args) {
        Check check = new Check();
        refusals(check);
        primaryAndReplica(check);
        idleThatWasReplica(check);
        pending(check);
        downTellsNothing(check);
        fullLog(check);
        pendingBeginsAnew(check);
        check.end();
    }

    private static void refusals(Check check) {
        ShippedLog log = Check.primary();
        log.crash(3, 0);
        check.noNode("node(-1, 0)", () -> log.node(-1, 0));
        check.noNode("node(4, 0)", () -> log.node(4, 0));
        check.noNode("node(0, -1)", () -> log.node(0, -1));
        check.noNode("node(0, 9)", () -> log.node(0, 9));
        check.noNode("node(3, 9) of a node that is down", () -> log.node(3, 9));
    }

    private static void facts(Check check, ShippedLog log, int node, int... due) {
        for (int what = 0; what < 9; what++) {
            check.due("node(" + node + ", " + what + ")", log.node(node, what), due[what]);
        }
    }

    private static void primaryAndReplica(Check check) {
        ShippedLog log = Check.pair();
        log.commit(0);
        log.put(0, 1, 1);
        log.standby(0, 1);
        facts(check, log, 0, 2, 48, 32, 48, 1, -1, 32, 1, 1);
        facts(check, log, 1, 3, 0, 0, 0, 0, 0, 0, -1, 0);
        facts(check, log, 2, 1, 0, 0, 0, 0, -1, 0, -1, 0);
        Check.ship(log, 0, 1);
        facts(check, log, 1, 3, 48, 48, 0, 1, 0, 0, -1, 0);
        log.apply(1, 3);
        facts(check, log, 1, 3, 48, 48, 48, 1, 0, 0, -1, 1);
        log.promote(1);
        facts(check, log, 1, 2, 64, 64, 64, 2, -1, 0, -1, 0);
        facts(check, log, 0, 2, 48, 32, 48, 1, -1, 32, -1, 1);
    }

    private static void idleThatWasReplica(Check check) {
        ShippedLog log = Check.pair();
        log.put(0, 1, 1);
        Check.ship(log, 0, 1);
        log.crash(0, 0);
        facts(check, log, 0, 0, 0, 0, 0, 0, -1, 0, -1, 0);
        facts(check, log, 1, 1, 32, 32, 0, 1, -1, 0, -1, 0);
    }

    private static void pending(Check check) {
        ShippedLog log = Check.primary();
        for (int i = 1; i <= 20; i++) {
            log.put(0, i % 3, i);
            check.due("pending", log.node(0, 8), i);
        }
        log.commit(0);
        check.due("pending after a commit", log.node(0, 8), 0);
    }

    /** What a node that is down tells, whatever it was before. */
    private static void downTellsNothing(Check check) {
        for (int node = 0; node < 3; node++) {
            ShippedLog log = Check.pair();
            log.put(0, 1, 1);
            log.commit(0);
            log.put(0, 1, 2);
            Check.ship(log, 0, 1);
            log.apply(1, 4);
            log.standby(0, 1);
            log.crash(node, 16);
            facts(check, log, node, 0, 0, 0, 0, 0, -1, 0, -1, 0);
        }
    }

    private static void fullLog(Check check) {
        ShippedLog log = Check.fullPair();
        facts(check, log, 0, 2, 4096, 16, 4096, 1, -1, 0, -1, 255);
        facts(check, log, 1, 3, 4096, 4096, 0, 1, 0, 0, -1, 0);
    }

    /** What is put counts from the last record of kind 2 or 3 on. */
    private static void pendingBeginsAnew(Check check) {
        ShippedLog log = Check.primary();
        check.due("behind kind 3", log.node(0, 8), 0);
        log.put(0, 1, 1);
        check.due("one put", log.node(0, 8), 1);
        log.commit(0);
        check.due("behind kind 2", log.node(0, 8), 0);
        log.put(0, 1, 1);
        log.crash(0, 16);
        log.up(0);
        check.due("of an idle node", log.node(0, 8), 1);
        log.promote(0);
        check.due("behind kind 3 again", log.node(0, 8), 0);
    }
}
