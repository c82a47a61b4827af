public final class Promise02UpTest {
    public static void main(String[] args) {
        Check check = new Check();
        refusals(check);
        goesUpIdle(check);
        everyTear(check);
        aRecordWholeByChance(check);
        memoryIsTheDisk(check);
        acrossTimelines(check);
        fullLog(check);
        lastPlace(check);
        emptyLog(check);
        timelinesAreLeftOut(check);
        highTimelines(check);
        check.end();
    }

    private static void refusals(Check check) {
        ShippedLog log = Check.pair();
        check.noNode("up(-1)", () -> log.up(-1));
        check.noNode("up(4)", () -> log.up(4));
        check.badState("up of a primary", () -> log.up(0));
        check.badState("up of a replica", () -> log.up(1));
        check.badState("up of an idle node", () -> log.up(2));
    }

    private static void goesUpIdle(Check check) {
        ShippedLog log = Check.primary();
        log.put(0, 3, 7);
        log.commit(0);
        log.put(0, 4, 8);
        log.crash(0, 16);
        check.due("up: the end", log.up(0), 64);
        check.due("role", log.node(0, 0), 1);
        check.due("end", log.node(0, 1), 64);
        check.due("synced", log.node(0, 2), 64);
        check.due("applied", log.node(0, 3), 64);
        check.due("timeline", log.node(0, 4), 1);
        check.due("follows", log.node(0, 5), ShippedLog.NONE);
        check.due("acknowledged", log.node(0, 6), 0);
        check.due("standby", log.node(0, 7), ShippedLog.NONE);
        check.due("pending", log.node(0, 8), 1);
        check.due("a committed key", log.get(0, 3), 7);
        check.due("a key not committed", log.get(0, 4), 0);
    }

    private static void everyTear(Check check) {
        for (int n = 0; n <= 48; n++) {
            ShippedLog log = Check.primary();
            log.put(0, 1, 0x01020304);
            log.put(0, 2, 0x05060708);
            log.crash(0, n);
            int whole = Math.min(n, 32) / 16 * 16;
            check.due("up after " + n + " bytes", log.up(0), 16 + whole);
        }
    }

    /** The record's last byte is 0 as the disk is there, so it is good without having come there. */
    private static void aRecordWholeByChance(Check check) {
        int tried = 0;
        for (int value = 0; value < 4096 && tried == 0; value++) {
            ShippedLog log = Check.primary();
            log.put(0, 1, value);
            if (log.byteAt(0, 31, 0) == 0) {
                tried++;
                log.crash(0, 15);
                check.due("up with a last byte 0", log.up(0), 32);
            }
        }
        check.due("values whose checksum ends with 0", tried, 1);
    }

    private static void memoryIsTheDisk(Check check) {
        ShippedLog log = Check.primary();
        log.put(0, 1, -1);
        log.put(0, 2, -2);
        log.crash(0, 21);
        check.due("memory of a crashed node stays", log.byteAt(0, 39, 0), 254);
        log.up(0);
        for (int i = 0; i < 64; i++) {
            check.due("memory is the disk at " + i, log.byteAt(0, i, 0), log.byteAt(0, i, 1));
        }
        check.due("what was torn off", log.byteAt(0, 39, 0), 0);
        check.due("the torn record's first byte", log.byteAt(0, 32, 0), 1);
        check.due("the torn record's timeline", log.byteAt(0, 33, 0), 1);
        check.due("promoted over what was torn", log.promote(0), 2);
        check.due("its kind", log.byteAt(0, 32, 1), 3);
        check.due("its position's last byte", log.byteAt(0, 43, 1), 32);
        log.crash(0, 0);
        check.due("good again", log.up(0), 48);
    }

    private static void acrossTimelines(Check check) {
        ShippedLog log = Check.primary();
        log.put(0, 1, 1);
        log.crash(0, 16);
        log.up(0);
        log.promote(0);
        log.put(0, 1, 2);
        log.commit(0);
        log.crash(0, 0);
        check.due("up over two timelines", log.up(0), 80);
        check.due("its timeline", log.node(0, 4), 2);
        check.due("its value", log.get(0, 1), 2);
    }

    private static void fullLog(Check check) {
        ShippedLog log = Check.primary();
        Check.fill(log, 0);
        check.due("all comes to the disk", log.crash(0, 4096), 4080);
        check.due("up with a full log", log.up(0), 4096);
        check.due("synced", log.node(0, 2), 4096);
    }

    /** The record at 4080 is good when it is whole with the 4096 bytes, and only then. */
    private static void lastPlace(Check check) {
        int[] bytes = {4063, 4064, 4065, 4079, 4080};
        int[] ends = {4064, 4080, 4080, 4080, 4096};
        for (int i = 0; i < bytes.length; i++) {
            ShippedLog log = Check.fullPrimary();
            check.due("crash(0, " + bytes[i] + ")", log.crash(0, bytes[i]), bytes[i]);
            check.due("up after it", log.up(0), ends[i]);
            check.due("its end", log.node(0, 1), ends[i]);
        }
    }

    private static void emptyLog(Check check) {
        ShippedLog log = new ShippedLog();
        int[] facts = {1, 0, 0, 0, 0, ShippedLog.NONE, 0, ShippedLog.NONE, 0};
        check.due("up the first time", log.up(3), 0);
        for (int what = 0; what < 9; what++) {
            check.due("node(3, " + what + ")", log.node(3, what), facts[what]);
        }
        log.crash(3, 0);
        check.due("up again", log.up(3), 0);
    }

    /** A record of kind 3 may be of any timeline above, not only of the next one. */
    private static void timelinesAreLeftOut(Check check) {
        ShippedLog log = Check.primary();
        log.promote(1);
        log.promote(2);
        log.crash(0, 0);
        log.up(0);
        check.due("timeline after 1", log.promote(0), 4);
        log.put(0, 1, 9);
        log.commit(0);
        log.crash(0, 0);
        check.due("up with timelines 1 and 4", log.up(0), 64);
        check.due("its timeline", log.node(0, 4), 4);
        check.due("its value", log.get(0, 1), 9);
    }

    /** A log begins with a timeline above 1, and timelines from 128 on are no numbers below 0. */
    private static void highTimelines(Check check) {
        int[] timelines = {2, 127, 128, 129, 200};
        for (int last : timelines) {
            ShippedLog log = Check.primary();
            log.promote(1);
            for (int timeline = 3; timeline <= last; timeline++) {
                log.rewind(1, 0);
                log.promote(1);
            }
            log.put(1, 2, last);
            log.commit(1);
            check.due("timeline", log.node(1, 4), last);
            check.due("the put's timeline", log.byteAt(1, log.node(1, 1) - 31, 0), last);
            int end = log.node(1, 1);
            log.crash(1, 0);
            check.due("up on timeline " + last, log.up(1), end);
            check.due("its timeline", log.node(1, 4), last);
            check.due("its value", log.get(1, 2), last);
        }
    }
}
