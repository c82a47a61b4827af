public final class Promise12DropTest {
    public static void main(String[] args) {
        Check check = new Check();
        ShippedLog log = Check.pair();
        check.noNode("drop(-1, 0)", () -> log.drop(-1, 0));
        check.noNode("drop(0, 4)", () -> log.drop(0, 4));
        check.noNode("drop(4, 4)", () -> log.drop(4, 4));
        check.nothingThere("nothing from the primary", () -> log.drop(0, 1));
        check.nothingThere("nothing from the replica", () -> log.drop(1, 0));
        check.nothingThere("from a node to itself", () -> log.drop(0, 0));
        theOldestIsLost(check);
        answersAreLost(check);
        fromSixteenToNone(check);
        check.end();
    }

    private static void theOldestIsLost(Check check) {
        ShippedLog log = Check.pair();
        log.send(0, 1);
        log.put(0, 1, 1);
        log.send(0, 1);
        log.put(0, 1, 2);
        log.send(0, 1);
        check.due("two are left", log.drop(0, 1), 2);
        check.due("messages", log.link(0, 1, 1), 2);
        check.due("the second one was of two records", log.deliver(0, 1), 32);
        check.due("none is left", log.drop(0, 1), 0);
        check.nothingThere("none", () -> log.drop(0, 1));
        check.due("the replica's end", log.node(1, 1), 32);
    }

    private static void answersAreLost(Check check) {
        ShippedLog log = Check.pair();
        log.standby(0, 1);
        log.commit(0);
        log.send(0, 1);
        log.deliver(0, 1);
        check.due("the answer is lost", log.drop(1, 0), 0);
        check.due("known", log.link(0, 1, 0), 0);
        check.due("acknowledged", log.node(0, 6), 0);
        check.due("sent anew", log.send(0, 1), 2);
        check.due("nothing is written twice", log.deliver(0, 1), 32);
        check.due("told", log.deliver(1, 0), 32);
        check.due("acknowledged then", log.node(0, 6), 32);
    }

    private static void fromSixteenToNone(Check check) {
        ShippedLog log = Check.sixteenSent();
        check.unsupported("full", () -> log.send(0, 1));
        for (int left = 15; left >= 0; left--) {
            check.due("how many there are then", log.drop(0, 1), left);
            check.due("messages", log.link(0, 1, 1), left);
        }
        check.nothingThere("none is left", () -> log.drop(0, 1));
        check.due("room again", log.send(0, 1), 1);

        ShippedLog answers = Check.sixteenAnswers();
        for (int left = 15; left >= 0; left--) {
            check.due("answers there are then", answers.drop(1, 0), left);
        }
        check.nothingThere("no answer is left", () -> answers.drop(1, 0));
        check.due("nothing was told", answers.link(0, 1, 0), 0);
    }
}
