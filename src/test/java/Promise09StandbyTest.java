public final class Promise09StandbyTest {
    public static void main(String[] args) {
        Check check = new Check();
        refusals(check);
        theOneBefore(check);
        lastCommitThatIsSafe(check);
        asItStandsWhenNamed(check);
        noneAcknowledgesAll(check);
        otherReplicasDoNotCount(check);
        lost(check);
        safeOnceStaysSafe(check);
        whatWasLeftStaysLeft(check);
        notBefore(check);
        oneRecordBefore(check);
        onlyItsOwn(check);
        lostAndNoneAndNamedAgain(check);
        noCommits(check);
        check.end();
    }

    private static void refusals(Check check) {
        ShippedLog log = Check.pair();
        log.promote(3);
        check.noNode("standby(4, 1)", () -> log.standby(4, 1));
        check.noNode("standby(-1, -1)", () -> log.standby(-1, -1));
        check.noNode("standby(0, 4)", () -> log.standby(0, 4));
        check.noNode("standby(0, -2)", () -> log.standby(0, -2));
        check.noNode("of no primary, but no such standby", () -> log.standby(1, 4));
        check.badState("standby of a replica", () -> log.standby(1, 1));
        check.badState("none of an idle node", () -> log.standby(2, ShippedLog.NONE));
        check.badArgument("an idle node", () -> log.standby(0, 2));
        check.badArgument("itself", () -> log.standby(0, 0));
        check.badArgument("another's replica", () -> log.standby(3, 1));
        check.due("refusals change nothing", log.node(0, 7), ShippedLog.NONE);
    }

    private static void theOneBefore(Check check) {
        ShippedLog log = Check.pair();
        log.follow(2, 0);
        check.due("none before", log.standby(0, 1), ShippedLog.NONE);
        check.due("node(0, 7)", log.node(0, 7), 1);
        check.due("the first one before", log.standby(0, 2), 1);
        check.due("the same again", log.standby(0, 2), 2);
        check.due("none after", log.standby(0, ShippedLog.NONE), 2);
        check.due("node(0, 7)", log.node(0, 7), ShippedLog.NONE);
        check.due("none again", log.standby(0, ShippedLog.NONE), ShippedLog.NONE);
    }

    /** Commits end at 32, 64, 96 and 128; the standby tells 64, 128 and 144. */
    private static void lastCommitThatIsSafe(Check check) {
        ShippedLog log = Check.pair();
        log.standby(0, 1);
        log.commit(0);
        for (int i = 0; i < 3; i++) {
            log.put(0, i, i);
            log.commit(0);
        }
        log.put(0, 1, 1);
        log.send(0, 1);
        log.deliver(0, 1);
        check.due("known", log.deliver(1, 0), 64);
        check.due("acknowledged to where it told", log.node(0, 6), 64);
        log.send(0, 1);
        log.deliver(0, 1);
        check.due("known", log.deliver(1, 0), 128);
        check.due("acknowledged", log.node(0, 6), 128);
        log.send(0, 1);
        log.deliver(0, 1);
        check.due("known", log.deliver(1, 0), 144);
        check.due("a put is no commit", log.node(0, 6), 128);
    }

    private static void asItStandsWhenNamed(Check check) {
        ShippedLog log = Check.pair();
        log.follow(2, 0);
        log.standby(0, 2);
        log.commit(0);
        log.put(0, 1, 1);
        Check.ship(log, 0, 1);
        log.commit(0);
        check.due("acknowledged", log.node(0, 6), 0);
        log.standby(0, 1);
        check.due("as it stands", log.node(0, 6), 32);
        log.standby(0, 2);
        check.due("it stays", log.node(0, 6), 32);
    }

    private static void noneAcknowledgesAll(Check check) {
        ShippedLog log = Check.pair();
        log.standby(0, 1);
        log.commit(0);
        log.commit(0);
        log.put(0, 1, 1);
        check.due("acknowledged", log.node(0, 6), 0);
        log.standby(0, ShippedLog.NONE);
        check.due("all commits are", log.node(0, 6), 48);
        check.due("and later ones", log.commit(0), true);
    }

    private static void otherReplicasDoNotCount(Check check) {
        ShippedLog log = Check.pair();
        log.follow(2, 0);
        log.standby(0, 1);
        log.commit(0);
        Check.ship(log, 0, 2);
        check.due("another replica has it", log.node(0, 6), 0);
        Check.ship(log, 0, 1);
        check.due("the standby has it", log.node(0, 6), 32);
    }

    private static void lost(Check check) {
        for (int way = 0; way < 5; way++) {
            ShippedLog log = Check.pair();
            log.commit(0);
            log.promote(3);
            log.standby(0, 1);
            check.due("with a standby", log.commit(0), false);
            if (way == 0) {
                log.crash(1, 0);
            } else if (way == 1) {
                log.promote(1);
            } else if (way == 2) {
                log.follow(1, 3);
            } else if (way == 3) {
                log.follow(1, 0);
            } else {
                log.rewind(1, 0);
            }
            check.due("none any more, way " + way, log.node(0, 7), ShippedLog.NONE);
            check.due("what is acknowledged stays, way " + way, log.node(0, 6), 32);
            check.due("later commits at once, way " + way, log.commit(0), true);
            check.due("acknowledged then, way " + way, log.node(0, 6), 64);
        }
    }

    /** Two answers are still on their way when the replica follows anew and is named once more. */
    private static void safeOnceStaysSafe(Check check) {
        ShippedLog log = Check.pair();
        for (int i = 0; i < 2; i++) {
            log.commit(0);
            log.send(0, 1);
            log.deliver(0, 1);
            log.follow(1, 0);
        }
        log.standby(0, 1);
        check.due("acknowledged", log.node(0, 6), 48);
        check.due("an older position is told", log.deliver(1, 0), 32);
        check.due("known", log.link(0, 1, 0), 32);
        check.due("acknowledged stays", log.node(0, 6), 48);
        log.standby(0, 1);
        check.due("acknowledged stays when it is named", log.node(0, 6), 48);
    }

    /** A commit that its standby left unsafe is not acknowledged by what another replica tells. */
    private static void whatWasLeftStaysLeft(Check check) {
        ShippedLog log = Check.pair();
        log.follow(2, 0);
        log.standby(0, 1);
        log.commit(0);
        log.crash(1, 0);
        Check.ship(log, 0, 2);
        check.due("without a standby", log.node(0, 6), 0);
        log.standby(0, 2);
        check.due("named now", log.node(0, 6), 32);
    }

    /** The commit ends at 96: a position of 80 is before it, one of 96 is not. */
    private static void notBefore(Check check) {
        ShippedLog log = Check.pair();
        log.standby(0, 1);
        for (int i = 0; i < 4; i++) {
            log.put(0, 1, i);
        }
        check.due("commit", log.commit(0), false);
        log.send(0, 1);
        log.deliver(0, 1);
        log.deliver(1, 0);
        log.send(0, 1);
        log.deliver(0, 1);
        check.due("64 is known", log.link(0, 1, 0), 64);
        log.standby(0, 1);
        check.due("a position before it", log.node(0, 6), 0);
        check.due("96 is told", log.deliver(1, 0), 96);
        check.due("a position just behind it", log.node(0, 6), 96);
    }

    /** Records come one by one: 16 bytes before the commit's end, then at it. */
    private static void oneRecordBefore(Check check) {
        ShippedLog log = Check.pair();
        log.standby(0, 1);
        log.put(0, 1, 1);
        Check.ship(log, 0, 1);
        log.commit(0);
        check.due("32 is known, the commit ends at 48", log.node(0, 6), 0);
        log.standby(0, 1);
        check.due("named again", log.node(0, 6), 0);
        Check.ship(log, 0, 1);
        check.due("48 is known", log.node(0, 6), 48);
    }

    /** Two primaries: one loses its standby, the other one keeps its own. */
    private static void onlyItsOwn(Check check) {
        ShippedLog log = Check.twoPairs();
        log.standby(0, 1);
        log.standby(2, 3);
        log.crash(3, 0);
        check.due("lost", log.node(2, 7), ShippedLog.NONE);
        check.due("the other one's", log.node(0, 7), 1);
        check.due("at once", log.commit(2), true);
        check.due("not at once", log.commit(0), false);
    }

    /** A lost standby leaves what is acknowledged; naming NONE acknowledges all; a later one goes on. */
    private static void lostAndNoneAndNamedAgain(Check check) {
        ShippedLog log = Check.pair();
        log.standby(0, 1);
        log.commit(0);
        log.follow(1, 0);
        check.due("lost", log.node(0, 6), 0);
        check.due("none before", log.standby(0, ShippedLog.NONE), ShippedLog.NONE);
        check.due("all commits", log.node(0, 6), 32);
        check.due("named again", log.standby(0, 1), ShippedLog.NONE);
        check.due("it stays", log.node(0, 6), 32);
        check.due("a later commit waits", log.commit(0), false);
        check.due("and is not acknowledged", log.node(0, 6), 32);
    }

    private static void noCommits(Check check) {
        ShippedLog log = Check.pair();
        log.put(0, 1, 1);
        Check.ship(log, 0, 1);
        log.standby(0, 1);
        check.due("a put is no commit", log.node(0, 6), 0);
        log.standby(0, ShippedLog.NONE);
        check.due("no commits at all", log.node(0, 6), 0);
    }
}
