import java.lang.management.ManagementFactory;
import java.math.BigInteger;

/** All calls of a run live in one room: a desk makes what it needs when it is made, and no call makes more. */
public final class RoomTest {
    private static final int DESKS = 400;
    private static final long LEAST_OBJECT = 16;
    private static final long MOST_BYTES_A_DESK = 32_000;

    private static final com.sun.management.ThreadMXBean BEAN =
        (com.sun.management.ThreadMXBean) ManagementFactory.getThreadMXBean();
    private static final long[] DIGITS = packedDigits();

    private RoomTest() {
    }

    public static void main(String[] args) {
        // once before it is measured, as loading classes takes room of its own
        useAll(new FractionDesk());
        allocated();
        long before = allocated();
        FractionDesk[] desks = new FractionDesk[DESKS];
        for (int i = 0; i < DESKS; i++) {
            desks[i] = new FractionDesk();
        }
        long made = (allocated() - before) / DESKS;
        Checks.due("bytes of a desk, " + made + ", are few", made <= MOST_BYTES_A_DESK ? 1 : 0, 1);
        long start = allocated();
        for (int i = 0; i < DESKS; i++) {
            useAll(desks[i]);
        }
        // the machine itself takes some bytes once, to link and compile: far less than one object for each desk
        long taken = (allocated() - start) / DESKS;
        Checks.due("objects that the calls on a desk took", taken / LEAST_OBJECT, 0);
        Checks.end("RoomTest");
    }

    private static long allocated() {
        return BEAN.getCurrentThreadAllocatedBytes();
    }

    private static long[] packedDigits() {
        String most = BigInteger.TWO.pow(2048).subtract(BigInteger.ONE).divide(BigInteger.valueOf(17)).toString();
        String row = most + "/" + BigInteger.TWO.pow(2047).subtract(BigInteger.TEN);
        long[] packed = new long[row.length() / 8];
        for (int i = 0; i < packed.length; i++) {
            packed[i] = Desk.packed(row.substring(8 * i, 8 * i + 8));
        }
        return packed;
    }

    private static void useAll(FractionDesk desk) {
        desk.set(0, Long.MIN_VALUE, 12);
        for (long digits : DIGITS) {
            desk.type(digits, 8);
        }
        desk.read(1);
        for (int kind = 0; kind < 8; kind++) {
            desk.combine(2, kind, 0, 1);
            desk.combine(3, kind, 1, 1);
        }
        for (int kind = 0; kind < 7; kind++) {
            desk.change(4, kind, 1);
        }
        desk.combine(5, 8, 4, 4);
        desk.power(6, 0, 32);
        desk.power(6, 0, 2048);
        desk.order(1, 0);
        desk.sign(1);
        desk.places(1, 1);
        desk.part(1, 1, 40);
        desk.write(1);
        desk.character(5);
        desk.wipe();
        desk.place();
    }
}
