/** Nodes are 0 to 3: every call refuses every other number, before it looks at anything else. */
public final class NoSuchNodeTest {
    private static final int[] NO_NODES = {-1, -2, 4, 5, Integer.MIN_VALUE, Integer.MAX_VALUE};

    public static void main(String[] args) {
        Check check = new Check();
        for (int no : NO_NODES) {
            oneNode(check, no);
            twoNodes(check, no, 0);
            twoNodes(check, no, no);
            twoNodes(check, 0, no);
        }
        firstAndLast(check, 0, 3);
        firstAndLast(check, 3, 0);
        check.end();
    }

    /** The other arguments are wrong too, where they can be. */
    private static void oneNode(Check check, int no) {
        ShippedLog log = Check.pair();
        check.noNode("up " + no, () -> log.up(no));
        check.noNode("crash " + no, () -> log.crash(no, -1));
        check.noNode("promote " + no, () -> log.promote(no));
        check.noNode("put " + no, () -> log.put(no, 16, 0));
        check.noNode("commit " + no, () -> log.commit(no));
        check.noNode("apply " + no, () -> log.apply(no, 0));
        check.noNode("get " + no, () -> log.get(no, 16));
        check.noNode("byteAt " + no, () -> log.byteAt(no, 0, 0));
        check.noNode("node " + no, () -> log.node(no, 0));
    }

    private static void twoNodes(Check check, int first, int second) {
        ShippedLog log = Check.pair();
        String nodes = first + ", " + second;
        check.noNode("follow " + nodes, () -> Check.following(log, first, second));
        check.noNode("rewind " + nodes, () -> log.rewind(first, second));
        check.noNode("send " + nodes, () -> log.send(first, second));
        check.noNode("deliver " + nodes, () -> log.deliver(first, second));
        check.noNode("drop " + nodes, () -> log.drop(first, second));
        check.noNode("link's messages " + nodes, () -> log.link(first, second, 1));
        check.noNode("link's position " + nodes, () -> log.link(first, second, 0));
        if (first != 0 || second != ShippedLog.NONE) {
            check.noNode("standby " + nodes, () -> log.standby(first, second));
        }
    }

    /** The first and the last node can all that a node can. */
    private static void firstAndLast(Check check, int primary, int replica) {
        ShippedLog log = new ShippedLog();
        check.due("up", log.up(primary), 0);
        check.due("up", log.up(replica), 0);
        check.due("promote", log.promote(primary), 1);
        log.follow(replica, primary);
        check.due("put", log.put(primary, 1, 5), 16);
        check.due("standby", log.standby(primary, replica), ShippedLog.NONE);
        check.due("commit", log.commit(primary), false);
        check.due("send", log.send(primary, replica), 3);
        check.due("link", log.link(primary, replica, 1), 1);
        check.due("deliver", log.deliver(primary, replica), 48);
        check.due("answer", log.deliver(replica, primary), 48);
        check.due("acknowledged", log.node(primary, 6), 48);
        check.due("apply", log.apply(replica, 3), 3);
        check.due("get", log.get(replica, 1), 5);
        check.due("byteAt", log.byteAt(replica, 32, 1), 2);
        check.due("crash", log.crash(primary, 0), 0);
        check.due("promote", log.promote(replica), 2);
        log.up(primary);
        check.due("rewind", log.rewind(primary, replica), 0);
        check.due("send", log.send(replica, primary), 1);
        check.due("drop", log.drop(replica, primary), 0);
    }
}
