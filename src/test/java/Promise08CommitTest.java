public final class Promise08CommitTest {
    public static void main(String[] args) {
        Check check = new Check();
        refusals(check);
        recordAndSync(check);
        committedAtOnce(check);
        withStandby(check);
        fullLog(check);
        check.end();
    }

    private static void refusals(Check check) {
        ShippedLog log = Check.pair();
        log.crash(3, 0);
        check.noNode("commit(-1)", () -> log.commit(-1));
        check.noNode("commit(4)", () -> log.commit(4));
        check.badState("commit of a replica", () -> log.commit(1));
        check.badState("commit of an idle node", () -> log.commit(2));
        check.badState("commit of a node that is down", () -> log.commit(3));
    }

    private static void recordAndSync(Check check) {
        ShippedLog log = Check.primary();
        log.put(0, 2, 9);
        check.due("acknowledged at once", log.commit(0), true);
        int[] begins = {2, 1, 0, 0, 0, 0, 0, 0, 0, 0, 0, 32};
        for (int i = 0; i < 12; i++) {
            check.due("byte " + i, log.byteAt(0, 32 + i, 0), begins[i]);
        }
        for (int i = 0; i < 48; i++) {
            check.due("byte " + i + " on the disk", log.byteAt(0, i, 1), log.byteAt(0, i, 0));
        }
        check.due("end", log.node(0, 1), 48);
        check.due("synced", log.node(0, 2), 48);
        check.due("applied", log.node(0, 3), 48);
        check.due("acknowledged", log.node(0, 6), 48);
        check.due("pending", log.node(0, 8), 0);
    }

    private static void committedAtOnce(Check check) {
        ShippedLog log = Check.primary();
        log.put(0, 1, 5);
        log.put(0, 2, 6);
        log.put(0, 1, 7);
        check.due("before", log.get(0, 1), 0);
        log.commit(0);
        check.due("the last put counts", log.get(0, 1), 7);
        check.due("another key", log.get(0, 2), 6);
        log.put(0, 2, 8);
        check.due("put after it", log.get(0, 2), 6);
        check.due("a commit with nothing put", log.commit(0) && log.commit(0), true);
        check.due("value", log.get(0, 2), 8);
    }

    private static void withStandby(Check check) {
        ShippedLog log = Check.pair();
        Check.ship(log, 0, 1);
        log.standby(0, 1);
        check.due("not acknowledged", log.commit(0), false);
        check.due("acknowledged", log.node(0, 6), 0);
        log.send(0, 1);
        log.deliver(0, 1);
        check.due("not told yet", log.node(0, 6), 0);
        log.deliver(1, 0);
        check.due("told", log.node(0, 6), 32);
        check.due("the next one", log.commit(0), false);
        check.due("what is acknowledged stays", log.node(0, 6), 32);
        check.due("all is synced", log.node(0, 2), 48);
    }

    private static void fullLog(Check check) {
        ShippedLog log = Check.primary();
        for (int i = 0; i < 254; i++) {
            log.put(0, 1, i);
        }
        check.due("the last record", log.commit(0), true);
        check.unsupported("commit with a full log", () -> log.commit(0));
        check.due("acknowledged", log.node(0, 6), 4096);
        check.due("value", log.get(0, 1), 253);
    }
}
