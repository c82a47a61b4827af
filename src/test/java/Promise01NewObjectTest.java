public final class Promise01NewObjectTest {
    public static void main(String[] args) {
        Check check = new Check();
        ShippedLog log = new ShippedLog();
        check.due("NONE", ShippedLog.NONE, -1);
        for (int node = 0; node < 4; node++) {
            int n = node;
            for (int what = 0; what < 9; what++) {
                int due = what == 5 || what == 7 ? ShippedLog.NONE : 0;
                check.due("node(" + n + ", " + what + ")", log.node(n, what), due);
            }
            for (int i = 0; i < 4096; i += 1365) {
                check.due("a byte in memory", log.byteAt(n, i, 0), 0);
                check.due("a byte on the disk", log.byteAt(n, i, 1), 0);
            }
            for (int to = 0; to < 4; to++) {
                check.due("messages", log.link(n, to, 1), 0);
            }
            check.badState("get of a node that is down", () -> log.get(n, 0));
        }
        for (int node = 0; node < 4; node++) {
            check.due("up with an empty log", log.up(node), 0);
            for (int key = 0; key < 16; key++) {
                check.due("a key at first", log.get(node, key), 0);
            }
        }
        objectsAreApart(check);
        everyByteIsZero(check);
        check.end();
    }

    private static void objectsAreApart(Check check) {
        ShippedLog first = Check.primary();
        first.put(0, 1, 5);
        first.commit(0);
        ShippedLog second = new ShippedLog();
        check.due("role in another object", second.node(0, 0), 0);
        second.up(0);
        check.due("end in another object", second.node(0, 1), 0);
        check.due("the first timeline of another object", second.promote(0), 1);
    }

    /** 512 bytes of each log at a time: an object has 512 calls. */
    private static void everyByteIsZero(Check check) {
        for (int part = 0; part < 64; part++) {
            ShippedLog log = new ShippedLog();
            int node = part / 16;
            int where = part / 8 % 2;
            for (int i = part % 8 * 512; i < part % 8 * 512 + 512; i++) {
                check.due("byteAt(" + node + ", " + i + ", " + where + ")", log.byteAt(node, i, where), 0);
            }
        }
    }
}
