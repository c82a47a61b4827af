public final class Promise06RewindTest {
    public static void main(String[] args) {
        Check check = new Check();
        refusals(check);
        takesBack(check);
        keepsWhatWasNotSynced(check);
        keepsAll(check);
        keepsNothing(check);
        byRecords(check);
        primaryBecomesReplica(check);
        rewindsAnew(check);
        fullLog(check);
        fullLogStays(check);
        tornBytes(check);
        longerThanTheOther(check);
        appliesWhatItKeeps(check);
        check.end();
    }

    private static void refusals(Check check) {
        ShippedLog log = Check.pair();
        log.crash(3, 0);
        check.noNode("rewind(4, 0)", () -> log.rewind(4, 0));
        check.noNode("rewind(-1, 0)", () -> log.rewind(-1, 0));
        check.noNode("rewind(1, 4)", () -> log.rewind(1, 4));
        check.noNode("rewind(3, -1)", () -> log.rewind(3, -1));
        check.badState("a node that is down", () -> log.rewind(3, 0));
        check.badState("of a replica", () -> log.rewind(2, 1));
        check.badState("of an idle node", () -> log.rewind(1, 2));
        check.badState("of a node that is down", () -> log.rewind(1, 3));
        check.badState("both are one", () -> log.rewind(0, 0));
    }

    /** Nodes 0 and 1 share 48 bytes; then each has a part of its own. */
    private static ShippedLog apart() {
        ShippedLog log = Check.pair();
        log.put(0, 1, 11);
        log.commit(0);
        Check.ship(log, 0, 1);
        log.promote(1);
        log.put(1, 2, 22);
        log.commit(1);
        log.put(0, 3, 33);
        log.commit(0);
        log.put(0, 4, 44);
        return log;
    }

    private static void takesBack(Check check) {
        ShippedLog log = apart();
        check.due("how many bytes are gone", log.rewind(0, 1), 48);
        int[] facts = {3, 48, 48, 48, 1, 1, 0, ShippedLog.NONE, 0};
        for (int what = 0; what < 9; what++) {
            check.due("node(0, " + what + ")", log.node(0, what), facts[what]);
        }
        for (int i = 0; i < 112; i++) {
            int due = i < 48 ? log.byteAt(1, i, 0) : 0;
            check.due("byte " + i + " in memory", log.byteAt(0, i, 0), due);
            check.due("byte " + i + " on the disk", log.byteAt(0, i, 1), due);
        }
        check.due("what stays", log.get(0, 1), 11);
        check.due("what was taken back", log.get(0, 3), 0);
        check.due("what the primary knows", log.link(1, 0, 0), 48);
        Check.ship(log, 1, 0);
        log.apply(0, 9);
        check.due("what was shipped", log.get(0, 2), 22);
    }

    private static void keepsWhatWasNotSynced(Check check) {
        ShippedLog log = Check.pair();
        log.put(0, 1, 11);
        log.put(0, 1, 12);
        Check.ship(log, 0, 1);
        log.promote(1);
        check.due("synced before", log.node(0, 2), 16);
        check.due("nothing is gone", log.rewind(0, 1), 0);
        check.due("synced", log.node(0, 2), 48);
        check.due("on the disk", log.byteAt(0, 16, 1), 1);
        log.crash(0, 0);
        check.due("the disk has it", log.up(0), 48);
    }

    private static void keepsAll(Check check) {
        ShippedLog log = Check.pair();
        log.commit(0);
        Check.ship(log, 0, 1);
        check.due("a replica applies all it has", log.node(1, 3), 0);
        check.due("nothing is gone", log.rewind(1, 0), 0);
        check.due("applied", log.node(1, 3), 32);
        check.due("an empty log", log.rewind(2, 0), 0);
        check.due("its role", log.node(2, 0), 3);
    }

    private static void keepsNothing(Check check) {
        ShippedLog log = Check.primary();
        log.commit(0);
        log.promote(1);
        check.due("all is gone", log.rewind(0, 1), 32);
        check.due("its end", log.node(0, 1), 0);
        check.due("its timeline", log.node(0, 4), 0);
        check.due("its disk", log.byteAt(0, 0, 1), 0);
    }

    /** The timelines' records differ from their second byte on, and go as a whole. */
    private static void byRecords(Check check) {
        ShippedLog log = Check.primary();
        log.promote(1);
        check.due("a record with the same first byte", log.rewind(1, 0), 16);
        check.due("its first byte in memory", log.byteAt(1, 0, 0), 0);
    }

    private static void primaryBecomesReplica(Check check) {
        ShippedLog log = apart();
        log.follow(2, 0);
        log.standby(0, 2);
        log.send(0, 2);
        log.follow(3, 1);
        log.rewind(0, 1);
        check.due("its replica is idle", log.node(2, 0), 1);
        check.due("and follows none", log.node(2, 5), ShippedLog.NONE);
        check.due("its messages", log.link(0, 2, 1), 0);
        check.due("its standby", log.node(0, 7), ShippedLog.NONE);
        check.due("another's replica", log.node(3, 0), 3);
        log.promote(0);
        check.due("promoted again: no standby", log.node(0, 7), ShippedLog.NONE);
        check.due("promoted again: acknowledged", log.node(0, 6), 0);
    }

    private static void rewindsAnew(Check check) {
        ShippedLog log = Check.pair();
        log.standby(0, 1);
        log.send(0, 1);
        log.deliver(0, 1);
        log.rewind(1, 0);
        check.due("what it knows is the end", log.link(0, 1, 0), 16);
        check.due("no standby any more", log.node(0, 7), ShippedLog.NONE);
        log.promote(3);
        log.send(3, log.rewind(1, 3) == 16 ? 1 : 0);
        check.due("another primary", log.node(1, 5), 3);
        check.due("messages of the one before", log.link(1, 0, 1), 0);
        check.due("messages of the new one", log.link(3, 1, 1), 1);
    }

    private static void fullLog(Check check) {
        ShippedLog log = Check.fullPrimary();
        log.promote(1);
        check.due("all 4096 bytes are gone", log.rewind(0, 1), 4096);
        for (int i = 0; i < 4096; i += i < 4080 ? 102 : 1) {
            check.due("byte " + i + " in memory", log.byteAt(0, i, 0), 0);
            check.due("byte " + i + " on the disk", log.byteAt(0, i, 1), 0);
        }
        check.due("end", log.node(0, 1), 0);
        check.due("synced", log.node(0, 2), 0);
        check.due("applied", log.node(0, 3), 0);
        check.due("state", log.get(0, 1), 0);
    }

    private static void fullLogStays(Check check) {
        ShippedLog log = Check.fullPair();
        check.due("a full log that is the same", log.rewind(1, 0), 0);
        check.due("end", log.node(1, 1), 4096);
        check.due("applied", log.node(1, 3), 4096);
        check.due("the last byte", log.byteAt(1, 4095, 1), log.byteAt(0, 4095, 0));
    }

    /** Bytes of a record that is not whole are behind the end: they are 0 then, and none of the gone. */
    private static void tornBytes(Check check) {
        ShippedLog log = Check.pair();
        Check.ship(log, 0, 1);
        log.put(0, 1, -1);
        log.crash(0, 15);
        log.up(0);
        log.promote(1);
        check.due("a torn byte in memory", log.byteAt(0, 16, 0), 1);
        check.due("nothing of the log is gone", log.rewind(0, 1), 0);
        for (int i = 16; i < 32; i++) {
            check.due("byte " + i + " in memory", log.byteAt(0, i, 0), 0);
            check.due("byte " + i + " on the disk", log.byteAt(0, i, 1), 0);
        }
        check.due("what it kept", log.byteAt(0, 0, 1), 3);
    }

    /** The other's log may be the shorter one, a beginning of this one. */
    private static void longerThanTheOther(Check check) {
        ShippedLog log = Check.pair();
        Check.ship(log, 0, 1);
        log.promote(1);
        for (int i = 0; i < 5; i++) {
            log.put(0, 1, i);
        }
        check.due("all behind the first record", log.rewind(0, 1), 80);
        check.due("end", log.node(0, 1), 16);
        check.due("what the primary knows", log.link(1, 0, 0), 16);
    }

    /** Of 4 kept records 1 was applied, and an uncommitted put is forgotten as its record is. */
    private static void appliesWhatItKeeps(Check check) {
        ShippedLog log = Check.pair();
        log.put(0, 1, 10);
        log.commit(0);
        log.put(0, 2, 20);
        Check.ship(log, 0, 1);
        log.apply(1, 1);
        log.promote(2);
        log.rewind(1, 0);
        check.due("applied", log.node(1, 3), 64);
        check.due("its value", log.get(1, 1), 10);
        check.due("put and not committed", log.node(1, 8), 1);
        log.rewind(1, 2);
        check.due("applied nothing", log.node(1, 3), 0);
        check.due("its value", log.get(1, 1), 0);
        check.due("nothing put", log.node(1, 8), 0);
    }
}
