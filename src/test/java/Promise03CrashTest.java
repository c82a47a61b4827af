public final class Promise03CrashTest {
    public static void main(String[] args) {
        Check check = new Check();
        refusals(check);
        howManyBytes(check);
        diskKeepsTheRest(check);
        downNodeTellsNothing(check);
        replicasBecomeIdle(check);
        replicaCrashes(check);
        allOthersBecomeIdle(check);
        fullLog(check);
        onlyOnce(check);
        check.end();
    }

    private static void refusals(Check check) {
        ShippedLog log = Check.primary();
        log.crash(3, 0);
        check.noNode("crash(-1, 0)", () -> log.crash(-1, 0));
        check.noNode("crash(4, -1)", () -> log.crash(4, -1));
        check.badArgument("crash(0, -1)", () -> log.crash(0, -1));
        check.badArgument("crash of a node that is down with n below 0", () -> log.crash(3, -1));
        check.badState("crash of a node that is down", () -> log.crash(3, 0));
        check.due("role after refusals", log.node(0, 0), 2);
    }

    private static void howManyBytes(Check check) {
        int[] asked = {0, 1, 15, 16, 31, 32, 33, Integer.MAX_VALUE};
        for (int n : asked) {
            ShippedLog log = Check.primary();
            log.put(0, 1, -1);
            log.put(0, 2, -1);
            int[] memory = new int[48];
            for (int i = 0; i < 48; i++) {
                memory[i] = log.byteAt(0, i, 0);
            }
            int saved = Math.min(n, 32);
            check.due("crash(0, " + n + ")", log.crash(0, n), saved);
            for (int i = 0; i < 48; i++) {
                int due = i < 16 + saved ? memory[i] : 0;
                check.due("byte " + i + " on the disk after crash(0, " + n + ")", log.byteAt(0, i, 1), due);
                check.due("byte " + i + " in memory after crash(0, " + n + ")", log.byteAt(0, i, 0), memory[i]);
            }
        }
    }

    private static void diskKeepsTheRest(Check check) {
        ShippedLog log = Check.primary();
        log.put(0, 1, 1);
        log.commit(0);
        check.due("nothing beside the disk", log.crash(0, 100), 0);
        check.due("what was synced stays", log.up(0), 48);
        check.due("idle: nothing comes to the disk", log.crash(0, 100), 0);
    }

    private static void downNodeTellsNothing(Check check) {
        ShippedLog log = Check.pair();
        log.standby(0, 1);
        log.put(0, 1, 1);
        log.crash(0, 99);
        for (int what = 0; what < 9; what++) {
            int due = what == 5 || what == 7 ? ShippedLog.NONE : 0;
            check.due("node(0, " + what + ") down", log.node(0, what), due);
        }
    }

    private static void replicasBecomeIdle(Check check) {
        ShippedLog log = Check.pair();
        log.follow(2, 0);
        log.promote(3);
        log.put(0, 1, 1);
        log.send(0, 1);
        log.deliver(0, 1);
        log.send(0, 2);
        log.apply(1, 1);
        log.crash(0, 0);
        for (int node = 1; node <= 2; node++) {
            check.due("role of a replica", log.node(node, 0), 1);
            check.due("what it follows", log.node(node, 5), ShippedLog.NONE);
            check.due("messages to it", log.link(0, node, 1), 0);
            check.due("messages from it", log.link(node, 0, 1), 0);
        }
        check.due("what it applied stays", log.node(1, 3), 16);
        check.due("its end stays", log.node(1, 1), 32);
        check.due("another primary stays one", log.node(3, 0), 2);
    }

    private static void replicaCrashes(Check check) {
        ShippedLog log = Check.pair();
        log.follow(2, 0);
        log.standby(0, 1);
        log.send(0, 1);
        log.send(0, 2);
        log.deliver(0, 1);
        log.send(0, 1);
        check.due("a replica's log is synced", log.crash(1, 5), 0);
        check.due("messages to it", log.link(0, 1, 1), 0);
        check.due("messages from it", log.link(1, 0, 1), 0);
        check.due("messages to another", log.link(0, 2, 1), 1);
        check.due("the standby is none", log.node(0, 7), ShippedLog.NONE);
        check.due("the primary stays one", log.node(0, 0), 2);
        check.badState("what it knows of it", () -> log.link(0, 1, 0));
        check.due("its disk", log.up(1), 16);
    }

    /** Every other node is a replica of the primary, the first and the last one too. */
    private static void allOthersBecomeIdle(Check check) {
        for (int primary = 0; primary < 4; primary++) {
            ShippedLog log = Check.allUp();
            log.promote(primary);
            for (int i = 1; i < 4; i++) {
                log.follow((primary + i) % 4, primary);
                log.send(primary, (primary + i) % 4);
            }
            log.crash(primary, 0);
            for (int i = 1; i < 4; i++) {
                int node = (primary + i) % 4;
                check.due("role of node " + node + " without " + primary, log.node(node, 0), 1);
                check.due("it follows", log.node(node, 5), ShippedLog.NONE);
                check.due("messages to it", log.link(primary, node, 1), 0);
            }
        }
    }

    private static void fullLog(Check check) {
        ShippedLog log = Check.fullPrimary();
        check.due("more than there are", log.crash(0, 4081), 4080);
        check.due("the last byte", log.byteAt(0, 4095, 1), log.byteAt(0, 4095, 0));
        check.due("the last position", log.byteAt(0, 4090, 1) * 256 + log.byteAt(0, 4091, 1), 4080);
    }

    private static void onlyOnce(Check check) {
        ShippedLog log = Check.primary();
        log.put(0, 1, -1);
        check.due("the first crash", log.crash(0, 5), 5);
        check.badState("a crash of what is down", () -> log.crash(0, 5));
        check.due("the disk goes on as it is", log.byteAt(0, 21, 1), 0);
        log.up(0);
        check.due("what is torn is not in the log", log.crash(0, 99), 0);
    }
}
