public final class Promise04PromoteTest {
    public static void main(String[] args) {
        Check check = new Check();
        refusals(check);
        recordAndSync(check);
        appliesAll(check);
        replicaLeavesItsPrimary(check);
        timelinesOfAllNodes(check);
        forgetsWhatWasNotCommitted(check);
        acknowledgedBeginsAgain(check);
        fullLog(check);
        allTimelinesUsed(check);
        lastPlace(check);
        timelinesAreUsedOnce(check);
        check.end();
    }

    private static void refusals(Check check) {
        ShippedLog log = Check.primary();
        log.crash(3, 0);
        check.noNode("promote(-1)", () -> log.promote(-1));
        check.noNode("promote(4)", () -> log.promote(4));
        check.badState("promote of a node that is down", () -> log.promote(3));
        check.badState("promote of a primary", () -> log.promote(0));
        check.due("refusals use no timeline", log.promote(1), 2);
    }

    private static void recordAndSync(Check check) {
        ShippedLog log = Check.allUp();
        check.due("the first timeline", log.promote(2), 1);
        int[] due = {3, 1, 0, 0, 0, 0, 0, 0, 0, 0, 0, 0, 205, 197, 203, 95};
        for (int i = 0; i < 16; i++) {
            check.due("byte " + i + " in memory", log.byteAt(2, i, 0), due[i]);
            check.due("byte " + i + " on the disk", log.byteAt(2, i, 1), due[i]);
        }
        int[] facts = {2, 16, 16, 16, 1, ShippedLog.NONE, 0, ShippedLog.NONE, 0};
        for (int what = 0; what < 9; what++) {
            check.due("node(2, " + what + ")", log.node(2, what), facts[what]);
        }
    }

    private static void appliesAll(Check check) {
        ShippedLog log = Check.pair();
        log.put(0, 5, 55);
        log.commit(0);
        Check.ship(log, 0, 1);
        check.due("not applied", log.get(1, 5), 0);
        check.due("a replica is promoted", log.promote(1), 2);
        check.due("applied", log.node(1, 3), 64);
        check.due("its value", log.get(1, 5), 55);
        check.due("its timeline", log.node(1, 4), 2);
        check.due("synced", log.node(1, 2), 64);
        check.due("kind on the disk", log.byteAt(1, 48, 1), 3);
        check.due("timeline on the disk", log.byteAt(1, 49, 1), 2);
    }

    private static void replicaLeavesItsPrimary(Check check) {
        ShippedLog log = Check.pair();
        log.follow(2, 0);
        log.standby(0, 1);
        log.send(0, 1);
        log.send(0, 2);
        log.deliver(0, 1);
        log.send(0, 1);
        log.promote(1);
        check.due("messages to it", log.link(0, 1, 1), 0);
        check.due("messages from it", log.link(1, 0, 1), 0);
        check.due("messages to another replica", log.link(0, 2, 1), 1);
        check.due("follows none", log.node(1, 5), ShippedLog.NONE);
        check.due("its standby is none", log.node(0, 7), ShippedLog.NONE);
        check.due("another replica goes on following", log.node(2, 5), 0);
        check.badState("it is sent nothing", () -> log.send(0, 1));
    }

    private static void timelinesOfAllNodes(Check check) {
        ShippedLog log = Check.allUp();
        check.due("promote(3)", log.promote(3), 1);
        check.due("promote(1)", log.promote(1), 2);
        log.crash(1, 0);
        log.crash(3, 0);
        log.up(3);
        check.due("promote(3) anew", log.promote(3), 3);
        check.due("its timeline", log.node(3, 4), 3);
    }

    private static void forgetsWhatWasNotCommitted(Check check) {
        ShippedLog log = Check.primary();
        log.put(0, 1, 10);
        log.commit(0);
        log.put(0, 1, 20);
        log.crash(0, 16);
        log.up(0);
        check.due("pending before", log.node(0, 8), 1);
        log.promote(0);
        check.due("pending after", log.node(0, 8), 0);
        log.put(0, 2, 30);
        log.commit(0);
        check.due("a put of the timeline before is forgotten", log.get(0, 1), 10);
        check.due("a put of this timeline", log.get(0, 2), 30);
    }

    private static void acknowledgedBeginsAgain(Check check) {
        ShippedLog log = Check.primary();
        log.commit(0);
        check.due("acknowledged", log.node(0, 6), 32);
        log.crash(0, 0);
        log.up(0);
        log.promote(0);
        check.due("acknowledged when promoted", log.node(0, 6), 0);
        check.due("standby when promoted", log.node(0, 7), ShippedLog.NONE);
        log.standby(0, ShippedLog.NONE);
        check.due("commits before it are not its own", log.node(0, 6), 0);
        log.follow(1, 0);
        Check.ship(log, 0, 1);
        log.standby(0, 1);
        check.due("nor with a standby that has them", log.node(0, 6), 0);
    }

    private static void fullLog(Check check) {
        ShippedLog log = Check.fullIdle();
        check.unsupported("promote with a full log", () -> log.promote(0));
        check.due("it stays idle", log.node(0, 0), 1);
        check.due("its end stays", log.node(0, 1), 4096);
        check.due("no timeline was used", log.promote(1), 2);
    }

    /** 512 calls in all: two go up, 255 promotions, and a rewind between most of them. */
    private static void allTimelinesUsed(Check check) {
        ShippedLog log = new ShippedLog();
        log.up(0);
        log.up(1);
        check.due("timeline", log.promote(0), 1);
        check.due("timeline", log.promote(1), 2);
        for (int timeline = 3; timeline <= 255; timeline++) {
            log.rewind(1, 0);
            check.due("timeline", log.promote(1), timeline);
        }
        log.rewind(1, 0);
        check.unsupported("promote after 255 timelines", () -> log.promote(1));

        ShippedLog primary = Check.allTimelines();
        check.due("the last timeline in the log", primary.node(1, 4), 255);
        check.badState("primary comes before 255 timelines", () -> primary.promote(0));

        ShippedLog down = Check.allTimelines();
        down.crash(1, 0);
        check.badState("down comes before 255 timelines", () -> down.promote(1));

        ShippedLog upAgain = Check.allTimelines();
        upAgain.crash(1, 0);
        check.due("timeline 255 is good", upAgain.up(1), 16);
    }

    /** The record of kind 3 may be the last one that the log has room for. */
    private static void lastPlace(Check check) {
        ShippedLog log = Check.primary();
        for (int i = 0; i < 254; i++) {
            log.put(0, 1, i);
        }
        log.crash(0, 4096);
        check.due("255 records", log.up(0), 4080);
        check.due("room for one more", log.promote(0), 2);
        check.due("end", log.node(0, 1), 4096);
        check.due("synced", log.node(0, 2), 4096);
        check.due("its kind", log.byteAt(0, 4080, 1), 3);
        check.unsupported("put then", () -> log.put(0, 1, 1));
        check.unsupported("commit then", () -> log.commit(0));
    }

    /** A timeline stays used when its record is taken back or was never shipped. */
    private static void timelinesAreUsedOnce(Check check) {
        ShippedLog log = Check.primary();
        check.due("the second", log.promote(1), 2);
        check.due("taken back", log.rewind(1, 0), 16);
        check.due("the third", log.promote(1), 3);
        check.due("taken back", log.rewind(0, 1), 16);
        check.due("the fourth", log.promote(0), 4);
        check.due("its log has this one alone", log.node(0, 1), 16);
    }
}
