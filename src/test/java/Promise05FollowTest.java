public final class Promise05FollowTest {
    public static void main(String[] args) {
        Check check = new Check();
        refusals(check);
        becomesReplica(check);
        beginnings(check);
        changesItsPrimary(check);
        followsAnew(check);
        emptyLogs(check);
        lastRecord(check);
        fullLogs(check);
        appliesNothing(check);
        check.end();
    }

    private static void refusals(Check check) {
        ShippedLog log = Check.pair();
        log.promote(2);
        log.crash(3, 0);
        check.noNode("follow(4, 0)", () -> Check.following(log, 4, 0));
        check.noNode("follow(-1, 0)", () -> Check.following(log, -1, 0));
        check.noNode("follow(1, 4)", () -> Check.following(log, 1, 4));
        check.noNode("follow(1, -1)", () -> Check.following(log, 1, -1));
        check.noNode("a node that is down, and no node", () -> Check.following(log, 3, 4));
        check.badState("a node that is down", () -> Check.following(log, 3, 0));
        check.badState("a primary", () -> Check.following(log, 2, 0));
        check.badState("of a replica", () -> Check.following(log, 1, 1));
        check.badState("of itself, a primary", () -> Check.following(log, 0, 0));
        check.badState("of a node that is down", () -> Check.following(log, 1, 3));
    }

    private static void becomesReplica(Check check) {
        ShippedLog log = Check.primary();
        log.follow(2, 0);
        check.due("role", log.node(2, 0), 3);
        check.due("follows", log.node(2, 5), 0);
        check.due("applied", log.node(2, 3), 0);
        check.due("what the primary knows", log.link(0, 2, 0), 0);
    }

    private static void beginnings(Check check) {
        ShippedLog log = Check.pair();
        log.put(0, 1, 1);
        Check.ship(log, 0, 1);
        log.crash(1, 0);
        log.up(1);
        log.follow(1, 0);
        check.due("a log that is the same", log.link(0, 1, 0), 32);
        log.crash(1, 0);
        log.up(1);
        log.put(0, 2, 2);
        log.follow(1, 0);
        check.due("a log that is a beginning", log.link(0, 1, 0), 32);
        check.due("its end stays", log.node(1, 1), 32);
        check.due("what was applied stays", log.node(1, 3), 32);

        ShippedLog longer = Check.pair();
        longer.put(0, 1, 1);
        Check.ship(longer, 0, 1);
        longer.crash(0, 0);
        longer.up(0);
        longer.promote(0);
        check.badArgument("another record at the same place", () -> Check.following(longer, 1, 0));
        longer.promote(2);
        check.badArgument("a longer log", () -> Check.following(longer, 1, 2));
        check.due("it stays idle", longer.node(1, 0), 1);
    }

    private static void changesItsPrimary(Check check) {
        ShippedLog log = Check.pair();
        log.promote(3);
        log.standby(0, 1);
        log.send(0, 1);
        log.follow(1, 3);
        check.due("follows", log.node(1, 5), 3);
        check.due("the standby of the one before", log.node(0, 7), ShippedLog.NONE);
        check.due("messages of the one before", log.link(0, 1, 1), 0);
        check.badState("what the one before knows", () -> log.link(0, 1, 0));
        check.due("what the new one knows", log.link(3, 1, 0), 0);
    }

    private static void followsAnew(Check check) {
        ShippedLog log = Check.pair();
        log.standby(0, 1);
        log.send(0, 1);
        log.send(0, 1);
        log.deliver(0, 1);
        check.due("told nothing yet", log.link(0, 1, 0), 0);
        log.follow(1, 0);
        check.due("what it knows is the end", log.link(0, 1, 0), 16);
        check.due("no standby any more", log.node(0, 7), ShippedLog.NONE);
        check.due("neither its role nor what it follows changed: messages to it", log.link(0, 1, 1), 1);
        check.due("messages from it", log.link(1, 0, 1), 1);
    }

    private static void emptyLogs(Check check) {
        ShippedLog log = Check.fullPrimary();
        log.follow(1, 0);
        check.due("an empty log is a beginning of a full one", log.link(0, 1, 0), 0);
        check.due("its role", log.node(1, 0), 3);
    }

    /** Node 1 has all that the primary has, and a record more; then the primary's log grows. */
    private static void lastRecord(Check check) {
        ShippedLog log = Check.pair();
        log.put(0, 1, 1);
        Check.ship(log, 0, 1);
        log.promote(1);
        log.crash(1, 0);
        check.due("32 bytes are the primary's", log.up(1), 48);
        check.badArgument("one record more", () -> Check.following(log, 1, 0));
        log.put(0, 1, 1);
        check.badArgument("another last record", () -> Check.following(log, 1, 0));
        log.put(0, 1, 2);
        check.badArgument("another record in the middle", () -> Check.following(log, 1, 0));
        check.due("it stays idle", log.node(1, 0), 1);
    }

    private static void fullLogs(Check check) {
        ShippedLog log = Check.fullPair();
        log.crash(1, 0);
        check.due("up", log.up(1), 4096);
        log.follow(1, 0);
        check.due("a full log is a beginning of the same", log.link(0, 1, 0), 4096);
    }

    /** What was applied stays when a node follows, be it less than its end. */
    private static void appliesNothing(Check check) {
        ShippedLog log = Check.pair();
        log.put(0, 1, 5);
        log.commit(0);
        Check.ship(log, 0, 1);
        log.apply(1, 1);
        log.follow(1, 0);
        check.due("of a replica that follows anew", log.node(1, 3), 16);
        log.crash(0, 0);
        log.up(0);
        log.promote(0);
        log.follow(1, 0);
        check.due("of an idle node", log.node(1, 3), 16);
        check.due("its value", log.get(1, 1), 0);
        check.due("the rest", log.apply(1, 9), 2);
        check.due("its value then", log.get(1, 1), 5);
    }
}
