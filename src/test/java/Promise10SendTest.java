public final class Promise10SendTest {
    public static void main(String[] args) {
        Check check = new Check();
        refusals(check);
        upToFour(check);
        fromWhatIsKnown(check);
        notSyncedToo(check);
        sixteenMessages(check);
        asItWasWhenSent(check);
        edgesOfFour(check);
        fullLog(check);
        check.end();
    }

    private static void refusals(Check check) {
        ShippedLog log = Check.pair();
        log.promote(3);
        check.noNode("send(-1, 1)", () -> log.send(-1, 1));
        check.noNode("send(0, 4)", () -> log.send(0, 4));
        check.noNode("send(4, 0)", () -> log.send(4, 0));
        check.badState("to an idle node", () -> log.send(0, 2));
        check.badState("to another's replica", () -> log.send(3, 1));
        check.badState("from a replica", () -> log.send(1, 0));
        check.badState("to itself", () -> log.send(0, 0));
        check.badState("between idle ones", () -> log.send(2, 2));
        Check.ship(log, 0, 1);
        check.nothingThere("nothing to send", () -> log.send(0, 1));
        check.due("no message", log.link(0, 1, 1), 0);
    }

    private static void upToFour(Check check) {
        ShippedLog log = Check.pair();
        for (int records = 1; records <= 6; records++) {
            check.due(records + " records", log.send(0, 1), Math.min(records, 4));
            check.due("messages", log.link(0, 1, 1), records);
            log.put(0, 1, records);
        }
    }

    private static void fromWhatIsKnown(Check check) {
        ShippedLog log = Check.pair();
        for (int i = 0; i < 5; i++) {
            log.put(0, 1, i);
        }
        check.due("four", log.send(0, 1), 4);
        log.deliver(0, 1);
        check.due("not told yet: four again", log.send(0, 1), 4);
        log.deliver(1, 0);
        check.due("told: the rest", log.send(0, 1), 2);
        check.due("sending tells the primary nothing", log.link(0, 1, 0), 64);
    }

    private static void notSyncedToo(Check check) {
        ShippedLog log = Check.pair();
        log.put(0, 1, 1);
        Check.ship(log, 0, 1);
        check.due("the replica is ahead of the primary's disk", log.node(1, 2), 32);
        check.due("the primary's disk", log.node(0, 2), 16);
    }

    private static void sixteenMessages(Check check) {
        ShippedLog log = Check.pair();
        log.follow(2, 0);
        for (int i = 1; i <= 16; i++) {
            check.due("send", log.send(0, 1), 1);
            check.due("messages", log.link(0, 1, 1), i);
        }
        check.unsupported("the 17th", () -> log.send(0, 1));
        check.due("another way", log.send(0, 2), 1);
        log.deliver(0, 1);
        check.due("room for one more", log.send(0, 1), 1);
        check.unsupported("full again", () -> log.send(0, 1));
        log.deliver(1, 0);
        check.unsupported("full comes before nothing to send", () -> log.send(0, 1));
    }

    private static void asItWasWhenSent(Check check) {
        ShippedLog log = Check.pair();
        log.send(0, 1);
        log.put(0, 1, 1);
        check.due("one record was sent", log.deliver(0, 1), 16);
        for (int i = 0; i < 16; i++) {
            check.due("byte " + i, log.byteAt(1, i, 0), log.byteAt(0, i, 0));
        }
        check.due("the next record was not", log.byteAt(1, 16, 0), 0);
    }

    /** What is known plus four records, three, one: never more than there are. */
    private static void edgesOfFour(Check check) {
        for (int records = 1; records <= 9; records++) {
            ShippedLog log = Check.pair();
            for (int i = 1; i < records; i++) {
                log.put(0, 1, i);
            }
            int left = records;
            while (left > 0) {
                int due = Math.min(left, 4);
                check.due("send with " + left + " left", log.send(0, 1), due);
                left -= due;
                check.due("end", log.deliver(0, 1), 16 * (records - left));
                log.deliver(1, 0);
            }
            check.nothingThere("nothing left", () -> log.send(0, 1));
        }
    }

    private static void fullLog(Check check) {
        ShippedLog log = Check.fullPair();
        check.due("all was sent", log.link(0, 1, 0), 4096);
        check.due("the replica's end", log.node(1, 1), 4096);
        check.due("synced", log.node(1, 2), 4096);
        check.nothingThere("nothing behind a full log", () -> log.send(0, 1));
        for (int i = 4080; i < 4096; i++) {
            check.due("byte " + i, log.byteAt(1, i, 1), log.byteAt(0, i, 0));
        }
    }
}
