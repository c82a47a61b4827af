/** All messages of a node are lost when its role changes, or what it follows; those of others stay. */
public final class LostMessagesTest {
    private static final Check CHECK = new Check();

    public static void main(String[] args) {
        ShippedLog log = threeReplicas();
        left("at first", log, 2, 1, 2, 1);

        log.crash(1, 0);
        left("a replica crashes", log, 0, 0, 2, 1);

        log = threeReplicas();
        log.promote(2);
        left("a replica is promoted", log, 2, 1, 0, 0);

        log = threeReplicas();
        log.promote(3);
        left("a node without messages is promoted", log, 2, 1, 2, 1);
        log.rewind(1, 3);
        left("a replica is rewound to another primary", log, 0, 0, 2, 1);

        log = threeReplicas();
        Check.ship(log, 0, 3);
        log.promote(3);
        log.follow(1, 3);
        left("a replica follows another primary", log, 0, 0, 2, 1);

        log = threeReplicas();
        log.crash(0, 0);
        left("the primary crashes", log, 0, 0, 0, 0);

        log = threeReplicas();
        log.promote(3);
        log.rewind(0, 3);
        left("the primary becomes a replica", log, 0, 0, 0, 0);

        log = threeReplicas();
        log.follow(1, 0);
        left("a replica follows its primary anew", log, 2, 1, 2, 1);
        log.rewind(2, 0);
        left("a replica is rewound to its primary", log, 2, 1, 2, 1);

        log = threeReplicas();
        log.crash(3, 0);
        log.up(3);
        log.follow(3, 0);
        left("another node begins to follow", log, 2, 1, 2, 1);

        log = threeReplicas();
        log.standby(0, 1);
        log.put(0, 1, 1);
        log.commit(0);
        log.apply(1, 1);
        left("no role changes", log, 2, 1, 2, 1);

        twoPrimaries();
        CHECK.end();
    }

    /** Nodes 1 and 2 have two messages before them and one answer on its way; node 3 follows too. */
    private static ShippedLog threeReplicas() {
        ShippedLog log = Check.pair();
        log.follow(2, 0);
        log.follow(3, 0);
        for (int replica = 1; replica <= 2; replica++) {
            for (int i = 0; i < 3; i++) {
                log.send(0, replica);
            }
            log.deliver(0, replica);
        }
        return log;
    }

    private static void twoPrimaries() {
        ShippedLog log = Check.twoPairs();
        log.send(0, 1);
        log.send(2, 3);
        log.crash(0, 0);
        CHECK.due("the one that crashed", log.link(0, 1, 1), 0);
        CHECK.due("another primary's", log.link(2, 3, 1), 1);
        CHECK.due("its replica stays one", log.node(3, 0), 3);
    }

    private static void left(String when, ShippedLog log, int... due) {
        for (int replica = 1; replica <= 2; replica++) {
            CHECK.due(when + ": messages to " + replica, log.link(0, replica, 1), due[2 * replica - 2]);
            CHECK.due(when + ": messages from " + replica, log.link(replica, 0, 1), due[2 * replica - 1]);
        }
    }
}
