import java.nio.ByteBuffer;
import java.util.zip.CRC32;

public final class Promise15ByteAtTest {
    public static void main(String[] args) {
        Check check = new Check();
        refusals(check);
        records(check);
        downOrNot(check);
        firstAndLast(check);
        unsigned(check);
        check.end();
    }

    private static void refusals(Check check) {
        ShippedLog log = Check.primary();
        check.noNode("byteAt(-1, 0, 0)", () -> log.byteAt(-1, 0, 0));
        check.noNode("byteAt(4, 0, 0)", () -> log.byteAt(4, 0, 0));
        check.noNode("byteAt(0, -1, 0)", () -> log.byteAt(0, -1, 0));
        check.noNode("byteAt(0, 4096, 0)", () -> log.byteAt(0, 4096, 0));
        check.noNode("byteAt(0, 4096, 1)", () -> log.byteAt(0, 4096, 1));
        check.noNode("byteAt(0, 0, 2)", () -> log.byteAt(0, 0, 2));
        check.noNode("byteAt(0, 0, -1)", () -> log.byteAt(0, 0, -1));
        check.due("the last byte in memory", log.byteAt(0, 4095, 0), 0);
        check.due("the last byte on the disk", log.byteAt(0, 4095, 1), 0);
    }

    private static void records(Check check) {
        int[] values = {0, -1, 1, Integer.MIN_VALUE, 0x7F80FF01};
        ShippedLog log = Check.primary();
        record(check, log, 0, 3, 0, 0);
        for (int i = 0; i < values.length; i++) {
            int position = log.put(0, 3 * i, values[i]);
            record(check, log, position, 1, 3 * i, values[i]);
        }
        log.commit(0);
        record(check, log, 96, 2, 0, 0);
    }

    private static void record(Check check, ShippedLog log, int position, int kind, int key, int value) {
        ByteBuffer bytes = ByteBuffer.allocate(16);
        bytes.put((byte) kind).put((byte) 1).putShort((short) key).putInt(value).putInt(position);
        CRC32 crc = new CRC32();
        crc.update(bytes.array(), 0, 12);
        bytes.putInt((int) crc.getValue());
        for (int i = 0; i < 16; i++) {
            check.due("byte " + (position + i), log.byteAt(0, position + i, 0), bytes.get(i) & 255);
        }
    }

    private static void downOrNot(Check check) {
        ShippedLog log = Check.primary();
        log.put(0, 1, -1);
        log.crash(0, 8);
        check.due("in memory of a node that is down", log.byteAt(0, 24, 0), 0);
        check.due("position in memory", log.byteAt(0, 27, 0), 16);
        check.due("on its disk", log.byteAt(0, 23, 1), 255);
        check.due("what did not come to the disk", log.byteAt(0, 27, 1), 0);
        check.due("never up", new ShippedLog().byteAt(0, 0, 1), 0);
    }

    /** The first and the last byte of a full log, in memory and on the disk. */
    private static void firstAndLast(Check check) {
        ShippedLog log = Check.fullPrimary();
        check.due("the first byte in memory", log.byteAt(0, 0, 0), 3);
        check.due("the first byte on the disk", log.byteAt(0, 0, 1), 3);
        record(check, log, 4080, 1, 254 % 16, 255);
        check.due("not on the disk yet", log.byteAt(0, 4095, 1), 0);
        int last = log.byteAt(0, 4095, 0);
        log.crash(0, 4079);
        check.due("all but the last byte", log.byteAt(0, 4095, 1), 0);
        check.due("the last byte but one", log.byteAt(0, 4094, 1), log.byteAt(0, 4094, 0));
        check.due("the last byte in memory", log.byteAt(0, 4095, 0), last);
    }

    /** Bytes are 0 to 255: none is below 0. */
    private static void unsigned(Check check) {
        ShippedLog log = Check.primary();
        log.put(0, 1, 0x80FF7F00);
        log.commit(0);
        int[] due = {128, 255, 127, 0};
        for (int i = 0; i < 4; i++) {
            check.due("byte " + i + " of the value in memory", log.byteAt(0, 20 + i, 0), due[i]);
            check.due("byte " + i + " of the value on the disk", log.byteAt(0, 20 + i, 1), due[i]);
        }
    }
}
