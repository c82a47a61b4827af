public final class Promise17LinkTest {
    public static void main(String[] args) {
        Check check = new Check();
        refusals(check);
        known(check);
        messages(check);
        upToSixteen(check);
        toldLast(check);
        fullLog(check);
        check.end();
    }

    private static void refusals(Check check) {
        ShippedLog log = Check.pair();
        log.promote(3);
        check.noNode("link(-1, 0, 1)", () -> log.link(-1, 0, 1));
        check.noNode("link(0, 4, 0)", () -> log.link(0, 4, 0));
        check.noNode("link(4, 0, 0)", () -> log.link(4, 0, 0));
        check.noNode("link(0, 1, 2)", () -> log.link(0, 1, 2));
        check.noNode("link(0, 1, -1)", () -> log.link(0, 1, -1));
        check.noNode("another what comes before no link", () -> log.link(0, 2, 2));
        check.badState("of an idle node", () -> log.link(0, 2, 0));
        check.badState("of another's replica", () -> log.link(3, 1, 0));
        check.badState("the other way", () -> log.link(1, 0, 0));
        check.badState("of itself", () -> log.link(0, 0, 0));
    }

    private static void known(Check check) {
        ShippedLog log = Check.pair();
        check.due("at first", log.link(0, 1, 0), 0);
        log.send(0, 1);
        check.due("after sending", log.link(0, 1, 0), 0);
        log.deliver(0, 1);
        check.due("after delivering", log.link(0, 1, 0), 0);
        log.deliver(1, 0);
        check.due("after being told", log.link(0, 1, 0), 16);
        log.crash(1, 0);
        log.up(1);
        log.put(0, 1, 1);
        log.follow(1, 0);
        check.due("the end when it began to follow", log.link(0, 1, 0), 16);
    }

    private static void messages(Check check) {
        ShippedLog log = Check.pair();
        log.follow(2, 0);
        log.send(0, 1);
        log.send(0, 1);
        log.send(0, 2);
        log.deliver(0, 1);
        check.due("to the first", log.link(0, 1, 1), 1);
        check.due("from the first", log.link(1, 0, 1), 1);
        check.due("to the second", log.link(0, 2, 1), 1);
        check.due("from the second", log.link(2, 0, 1), 0);
        check.due("between others", log.link(2, 3, 1), 0);
        check.due("from a node to itself", log.link(0, 0, 1), 0);
        log.crash(3, 0);
        check.due("of a node that is down", log.link(3, 0, 1), 0);
    }

    private static void upToSixteen(Check check) {
        ShippedLog log = Check.pair();
        for (int i = 1; i <= 16; i++) {
            log.send(0, 1);
            check.due("messages", log.link(0, 1, 1), i);
        }
        for (int i = 1; i <= 16; i++) {
            log.deliver(0, 1);
            check.due("messages left", log.link(0, 1, 1), 16 - i);
            check.due("answers", log.link(1, 0, 1), i);
        }
    }

    /** What is known is the position told last, not the greatest. */
    private static void toldLast(Check check) {
        ShippedLog log = Check.pair();
        log.send(0, 1);
        log.deliver(0, 1);
        log.put(0, 1, 1);
        log.follow(1, 0);
        log.send(0, 1);
        log.deliver(0, 1);
        log.follow(1, 0);
        check.due("its end when it began to follow anew", log.link(0, 1, 0), 32);
        check.due("an older one is told", log.deliver(1, 0), 16);
        check.due("it is known", log.link(0, 1, 0), 16);
        check.due("the next one is told", log.deliver(1, 0), 32);
        check.due("it is known", log.link(0, 1, 0), 32);
    }

    private static void fullLog(Check check) {
        ShippedLog log = Check.fullPair();
        check.due("the greatest position", log.link(0, 1, 0), 4096);
    }
}
