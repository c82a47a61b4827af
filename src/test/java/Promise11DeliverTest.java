public final class Promise11DeliverTest {
    public static void main(String[] args) {
        Check check = new Check();
        refusals(check);
        writtenAndSynced(check);
        otherPositions(check);
        positionsInOrder(check);
        answerFindsSixteen(check);
        manyMessages(check);
        overWhatWasTorn(check);
        positionsNeedNoRoom(check);
        fifteenAnswersLeaveRoom(check);
        onceMoreToAFullLog(check);
        check.end();
    }

    private static void refusals(Check check) {
        ShippedLog log = Check.pair();
        check.noNode("deliver(-1, 0)", () -> log.deliver(-1, 0));
        check.noNode("deliver(0, 4)", () -> log.deliver(0, 4));
        check.noNode("deliver(4, 0)", () -> log.deliver(4, 0));
        check.nothingThere("nothing from the primary", () -> log.deliver(0, 1));
        check.nothingThere("nothing from the replica", () -> log.deliver(1, 0));
        check.nothingThere("from a node to itself", () -> log.deliver(2, 2));
        check.nothingThere("between idle nodes", () -> log.deliver(2, 3));
    }

    private static void writtenAndSynced(Check check) {
        ShippedLog log = Check.pair();
        log.put(0, 4, 40);
        log.commit(0);
        log.send(0, 1);
        check.due("the receiver's end", log.deliver(0, 1), 48);
        check.due("end", log.node(1, 1), 48);
        check.due("synced", log.node(1, 2), 48);
        check.due("not applied", log.node(1, 3), 0);
        check.due("timeline", log.node(1, 4), 1);
        for (int i = 0; i < 48; i++) {
            check.due("byte " + i + " in memory", log.byteAt(1, i, 0), log.byteAt(0, i, 0));
            check.due("byte " + i + " on the disk", log.byteAt(1, i, 1), log.byteAt(0, i, 0));
        }
        check.due("one answer", log.link(1, 0, 1), 1);
        check.due("no message to it", log.link(0, 1, 1), 0);
        check.due("known before", log.link(0, 1, 0), 0);
        check.due("the position told", log.deliver(1, 0), 48);
        check.due("known after", log.link(0, 1, 0), 48);
    }

    private static void otherPositions(Check check) {
        ShippedLog log = Check.pair();
        log.send(0, 1);
        log.put(0, 1, 1);
        log.send(0, 1);
        check.due("the first one", log.deliver(0, 1), 16);
        check.due("one before the end, though longer", log.deliver(0, 1), 16);
        check.due("both answer", log.link(1, 0, 1), 2);
        check.due("nothing was written", log.byteAt(1, 16, 0), 0);

        ShippedLog behind = Check.pair();
        behind.send(0, 1);
        behind.deliver(0, 1);
        behind.deliver(1, 0);
        for (int i = 0; i < 5; i++) {
            behind.put(0, 1, i);
        }
        behind.send(0, 1);
        behind.deliver(0, 1);
        behind.deliver(1, 0);
        behind.send(0, 1);
        behind.drop(0, 1);
        behind.send(0, 1);
        check.due("lost and sent anew", behind.deliver(0, 1), 96);
    }

    private static void positionsInOrder(Check check) {
        ShippedLog log = Check.pair();
        log.send(0, 1);
        log.deliver(0, 1);
        log.follow(1, 0);
        log.put(0, 1, 1);
        log.send(0, 1);
        log.deliver(0, 1);
        check.due("the oldest first", log.deliver(1, 0), 16);
        check.due("then the next", log.deliver(1, 0), 32);
        check.nothingThere("no more", () -> log.deliver(1, 0));
        log.put(0, 1, 2);
        log.send(0, 1);
        log.deliver(0, 1);
        log.follow(1, 0);
        check.due("known", log.link(0, 1, 0), 48);
        log.put(0, 1, 3);
        log.send(0, 1);
        check.due("an answer of before", log.deliver(1, 0), 48);
        check.due("a message of then", log.deliver(0, 1), 64);
    }

    private static void answerFindsSixteen(Check check) {
        ShippedLog log = Check.pair();
        for (int i = 0; i < 16; i++) {
            log.send(0, 1);
            log.deliver(0, 1);
        }
        log.put(0, 1, 1);
        log.send(0, 1);
        check.unsupported("the answer finds 16 messages", () -> log.deliver(0, 1));
        check.due("the message stays", log.link(0, 1, 1), 1);
        check.due("the end stays", log.node(1, 1), 16);
        log.drop(1, 0);
        check.due("delivered then", log.deliver(0, 1), 16);
        check.due("answers", log.link(1, 0, 1), 16);
        for (int i = 0; i < 16; i++) {
            check.due("a position told", log.deliver(1, 0), 16);
        }
    }

    /** More messages go each way than there is room for at once. */
    private static void manyMessages(Check check) {
        ShippedLog log = Check.pair();
        for (int known = 0; known < 20 * 32; known += 32) {
            check.due("a message of one record", log.send(0, 1), 1);
            log.put(0, 1, known);
            check.due("a message of two", log.send(0, 1), 2);
            check.due("the first one is lost", log.drop(0, 1), 1);
            check.due("the second one is delivered", log.deliver(0, 1), known + 32);
            check.due("the position told", log.deliver(1, 0), known + 32);
            log.put(0, 1, known);
        }
    }

    private static void overWhatWasTorn(Check check) {
        ShippedLog log = Check.primary();
        log.put(0, 1, -1);
        log.crash(0, 12);
        log.promote(1);
        log.up(0);
        log.rewind(0, 1);
        check.due("torn bytes are gone", log.byteAt(0, 16, 1), 0);

        ShippedLog torn = Check.pair();
        Check.ship(torn, 0, 1);
        torn.put(0, 1, -1);
        torn.crash(0, 12);
        torn.up(0);
        torn.promote(1);
        torn.follow(0, 1);
        check.due("torn bytes stay", torn.byteAt(0, 16, 1), 1);
        torn.send(1, 0);
        check.due("written over them", torn.deliver(1, 0), 32);
        check.due("kind in memory", torn.byteAt(0, 16, 0), 3);
        check.due("kind on the disk", torn.byteAt(0, 16, 1), 3);
        torn.crash(0, 0);
        check.due("good", torn.up(0), 32);
    }

    /** Only an answer needs room: a position is delivered though the other way has 16 messages. */
    private static void positionsNeedNoRoom(Check check) {
        ShippedLog log = Check.pair();
        log.send(0, 1);
        log.deliver(0, 1);
        for (int i = 0; i < 16; i++) {
            log.send(0, 1);
        }
        check.due("messages the other way", log.link(0, 1, 1), 16);
        check.due("a position", log.deliver(1, 0), 16);
        check.due("messages the other way", log.link(0, 1, 1), 16);
    }

    private static void fifteenAnswersLeaveRoom(Check check) {
        ShippedLog log = Check.noRoomForAnswer();
        check.unsupported("16 answers", () -> log.deliver(0, 1));
        check.due("one is told", log.deliver(1, 0), 16);
        check.due("15 answers", log.deliver(0, 1), 32);
        check.due("16 again", log.link(1, 0, 1), 16);
        check.due("none on the way to it", log.link(0, 1, 1), 0);
    }

    /** A message that comes once more, when the replica's log is full. */
    private static void onceMoreToAFullLog(Check check) {
        ShippedLog log = Check.pair();
        Check.fill(log, 0);
        for (int i = 0; i < 63; i++) {
            log.send(0, 1);
            log.deliver(0, 1);
            log.deliver(1, 0);
        }
        check.due("the last four", log.send(0, 1), 4);
        check.due("once more", log.send(0, 1), 4);
        check.due("full", log.deliver(0, 1), 4096);
        check.due("nothing is written", log.deliver(0, 1), 4096);
        check.due("told", log.deliver(1, 0), 4096);
        check.due("told again", log.deliver(1, 0), 4096);
    }
}
