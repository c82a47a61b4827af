public final class Promise14GetTest {
    public static void main(String[] args) {
        Check check = new Check();
        refusals(check);
        committedValues(check);
        acrossCrashes(check);
        onlyTheRecordsKey(check);
        upToWhatIsApplied(check);
        fullLog(check);
        check.end();
    }

    private static void refusals(Check check) {
        ShippedLog log = Check.primary();
        log.crash(3, 0);
        check.noNode("get(-1, 0)", () -> log.get(-1, 0));
        check.noNode("get(4, 0)", () -> log.get(4, 0));
        check.noNode("get(0, 16)", () -> log.get(0, 16));
        check.noNode("get(0, -1)", () -> log.get(0, -1));
        check.noNode("no such key of a node that is down", () -> log.get(3, 16));
        check.badState("a node that is down", () -> log.get(3, 0));
        check.due("an idle node", log.get(2, 15), 0);
    }

    private static void committedValues(Check check) {
        ShippedLog log = Check.primary();
        log.put(0, 0, 1);
        log.put(0, 15, -1);
        check.due("not committed", log.get(0, 0), 0);
        log.commit(0);
        check.due("committed", log.get(0, 0), 1);
        check.due("committed", log.get(0, 15), -1);
        check.due("not put", log.get(0, 7), 0);
        log.put(0, 0, 0);
        log.commit(0);
        check.due("0 again", log.get(0, 0), 0);
        check.due("the other one stays", log.get(0, 15), -1);
    }

    /** A put that is not committed goes on over a crash, but not over a new timeline. */
    private static void acrossCrashes(Check check) {
        ShippedLog log = Check.primary();
        log.put(0, 2, 21);
        log.commit(0);
        log.put(0, 2, 22);
        log.crash(0, 16);
        log.up(0);
        check.due("after a crash", log.get(0, 2), 21);
        log.promote(0);
        log.commit(0);
        check.due("forgotten with the new timeline", log.get(0, 2), 21);
        log.put(0, 2, 23);
        log.commit(0);
        check.due("put anew", log.get(0, 2), 23);
    }

    private static void onlyTheRecordsKey(Check check) {
        ShippedLog log = Check.primary();
        for (int key = 0; key < 16; key++) {
            log.put(0, key, 100 + key);
        }
        log.commit(0);
        for (int key = 0; key < 16; key++) {
            check.due("key " + key, log.get(0, key), 100 + key);
        }
    }

    /** The state ends at the applied position, also when the log goes on. */
    private static void upToWhatIsApplied(Check check) {
        ShippedLog log = Check.pair();
        log.put(0, 15, 1);
        log.commit(0);
        Check.ship(log, 0, 1);
        log.apply(1, 2);
        check.due("the put alone", log.get(1, 15), 0);
        log.apply(1, 1);
        check.due("the commit too", log.get(1, 15), 1);
    }

    /** Committed by the 256th record. */
    private static void fullLog(Check check) {
        ShippedLog log = Check.primary();
        for (int i = 0; i < 254; i++) {
            log.put(0, i % 16, i);
        }
        check.due("before", log.get(0, 13), 0);
        log.commit(0);
        for (int key = 0; key < 16; key++) {
            check.due("key " + key, log.get(0, key), key < 14 ? 240 + key : 224 + key);
        }
    }
}
