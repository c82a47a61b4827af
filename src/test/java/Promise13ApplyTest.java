public final class Promise13ApplyTest {
    public static void main(String[] args) {
        Check check = new Check();
        refusals(check);
        recordByRecord(check);
        manyAtOnce(check);
        aroundWhatThereIs(check);
        fullLog(check);
        emptyLog(check);
        check.end();
    }

    private static void refusals(Check check) {
        ShippedLog log = Check.pair();
        log.crash(3, 0);
        check.noNode("apply(-1, 1)", () -> log.apply(-1, 1));
        check.noNode("apply(4, 0)", () -> log.apply(4, 0));
        check.badArgument("apply(1, 0)", () -> log.apply(1, 0));
        check.badArgument("apply(1, -1)", () -> log.apply(1, Integer.MIN_VALUE));
        check.badArgument("of a primary with n 0", () -> log.apply(0, 0));
        check.badState("of a primary", () -> log.apply(0, 1));
        check.badState("of an idle node", () -> log.apply(2, 1));
        check.badState("of a node that is down", () -> log.apply(3, 1));
        check.due("nothing to apply", log.apply(1, 1), 0);
    }

    private static void recordByRecord(Check check) {
        ShippedLog log = Check.pair();
        log.put(0, 1, 5);
        log.put(0, 1, 6);
        log.commit(0);
        log.put(0, 1, 7);
        Check.ship(log, 0, 1);
        int[] pending = {0, 1, 2, 0, 1};
        int[] values = {0, 0, 0, 6, 6};
        for (int i = 0; i < 5; i++) {
            check.due("apply(1, 1)", log.apply(1, 1), 1);
            check.due("applied", log.node(1, 3), 16 * i + 16);
            check.due("pending", log.node(1, 8), pending[i]);
            check.due("value", log.get(1, 1), values[i]);
        }
        check.due("no more", log.apply(1, 1), 0);
    }

    private static void manyAtOnce(Check check) {
        ShippedLog log = Check.pair();
        for (int i = 0; i < 6; i++) {
            log.put(0, i, i + 1);
            log.commit(0);
        }
        Check.ship(log, 0, 1);
        check.due("three", log.apply(1, 3), 3);
        check.due("one key", log.get(1, 0), 1);
        check.due("the next one not yet", log.get(1, 1), 0);
        check.due("as many as there are", log.apply(1, Integer.MAX_VALUE), 10);
        check.due("applied", log.node(1, 3), 208);
        check.due("the last key", log.get(1, 5), 6);
        log.put(0, 5, 0);
        log.commit(0);
        Check.ship(log, 0, 1);
        log.crash(0, 0);
        check.due("an idle node keeps what it applied", log.node(1, 3), 208);
        check.due("and answers from it", log.get(1, 5), 6);
    }

    /** Of three records: one less than there are, just as many, one more, none. */
    private static void aroundWhatThereIs(Check check) {
        for (int n = 1; n <= 4; n++) {
            ShippedLog log = Check.pair();
            log.put(0, 1, 1);
            log.commit(0);
            Check.ship(log, 0, 1);
            check.due("apply(1, " + n + ")", log.apply(1, n), Math.min(n, 3));
            check.due("applied", log.node(1, 3), 16 * Math.min(n, 3));
            check.due("the rest", log.apply(1, 9), 3 - Math.min(n, 3));
            check.due("none", log.apply(1, Integer.MAX_VALUE), 0);
        }
    }

    private static void fullLog(Check check) {
        ShippedLog log = Check.fullPair();
        check.due("all but one", log.apply(1, 255), 255);
        check.due("the last one", log.apply(1, 255), 1);
        check.due("none", log.apply(1, 1), 0);
        check.due("applied", log.node(1, 3), 4096);
        check.due("put and not committed", log.node(1, 8), 255);
    }

    private static void emptyLog(Check check) {
        ShippedLog log = Check.pair();
        check.due("nothing there", log.apply(1, 1), 0);
        check.due("applied", log.node(1, 3), 0);
        log.send(0, 1);
        check.due("sent, not delivered", log.apply(1, 1), 0);
        log.deliver(0, 1);
        check.due("delivered", log.apply(1, 1), 1);
    }
}
