public final class Promise07PutTest {
    public static void main(String[] args) {
        Check check = new Check();
        refusals(check);
        record(check);
        inMemoryAlone(check);
        values(check);
        fullLog(check);
        firstAndLastKey(check);
        lastPlace(check);
        check.end();
    }

    private static void refusals(Check check) {
        ShippedLog log = Check.pair();
        log.crash(3, 0);
        check.noNode("put(-1, 0, 0)", () -> log.put(-1, 0, 0));
        check.noNode("put(4, 16, 0)", () -> log.put(4, 16, 0));
        check.badState("put to a replica, no such key", () -> log.put(1, 16, 0));
        check.badState("put to an idle node", () -> log.put(2, 0, 0));
        check.badState("put to a node that is down", () -> log.put(3, -1, 0));
        check.badArgument("put(0, 16, 0)", () -> log.put(0, 16, 0));
        check.badArgument("put(0, -1, 0)", () -> log.put(0, -1, 0));
        check.due("nothing was written", log.node(0, 1), 16);
    }

    private static void record(Check check) {
        ShippedLog log = Check.primary();
        check.due("position", log.put(0, 3, 77), 16);
        int[] due = {1, 1, 0, 3, 0, 0, 0, 77, 0, 0, 0, 16, 165, 167, 229, 153};
        for (int i = 0; i < 16; i++) {
            check.due("byte " + i, log.byteAt(0, 16 + i, 0), due[i]);
        }
        check.due("the next position", log.put(0, 15, 0x81C2F3E4), 32);
        int[] begins = {1, 1, 0, 15, 0x81, 0xC2, 0xF3, 0xE4, 0, 0, 0, 32};
        for (int i = 0; i < 12; i++) {
            check.due("byte " + i, log.byteAt(0, 32 + i, 0), begins[i]);
        }
    }

    private static void inMemoryAlone(Check check) {
        ShippedLog log = Check.primary();
        log.put(0, 3, 77);
        check.due("end", log.node(0, 1), 32);
        check.due("synced", log.node(0, 2), 16);
        check.due("applied", log.node(0, 3), 32);
        check.due("pending", log.node(0, 8), 1);
        check.due("not on the disk", log.byteAt(0, 16, 1), 0);
        check.due("not in the state", log.get(0, 3), 0);
        log.put(0, 3, 78);
        check.due("two puts of a key", log.node(0, 8), 2);
    }

    private static void values(Check check) {
        int[] values = {0, 1, -1, Integer.MIN_VALUE, Integer.MAX_VALUE, 255, 256, 0x01020304};
        ShippedLog log = Check.primary();
        for (int key = 0; key < 16; key++) {
            int value = values[key % values.length] - key / 8;
            log.put(0, key, value);
            log.commit(0);
            check.due("value of key " + key, log.get(0, key), value);
        }
    }

    private static void fullLog(Check check) {
        ShippedLog log = Check.primary();
        for (int i = 0; i < 255; i++) {
            check.due("position", log.put(0, i % 16, i), 16 * i + 16);
        }
        check.due("end", log.node(0, 1), 4096);
        check.unsupported("put to a full log", () -> log.put(0, 0, 0));
        check.badArgument("no such key comes before a full log", () -> log.put(0, 16, 0));
        check.due("end after it", log.node(0, 1), 4096);
        check.due("the last position's bytes", log.byteAt(0, 4090, 0) * 256 + log.byteAt(0, 4091, 0), 4080);
    }

    private static void firstAndLastKey(Check check) {
        ShippedLog log = Check.primary();
        check.due("key 0", log.put(0, 0, Integer.MIN_VALUE), 16);
        check.due("key 15", log.put(0, 15, Integer.MAX_VALUE), 32);
        log.commit(0);
        check.due("the least value", log.get(0, 0), Integer.MIN_VALUE);
        check.due("the greatest value", log.get(0, 15), Integer.MAX_VALUE);
    }

    private static void lastPlace(Check check) {
        ShippedLog log = Check.primary();
        for (int i = 0; i < 254; i++) {
            log.put(0, 1, i);
        }
        check.due("room for one more", log.put(0, 9, -2), 4080);
        check.due("its key", log.byteAt(0, 4083, 0), 9);
        check.due("its value's last byte", log.byteAt(0, 4087, 0), 254);
        check.due("applied", log.node(0, 3), 4096);
        check.due("put and not committed", log.node(0, 8), 255);
    }
}
