import java.lang.management.ManagementFactory;

/**
 * No call throws, whatever its arguments, also behind the 512th one (what it answers there is free,
 * and not looked at); and a run of 512 calls stays in its room.
 */
public final class RoomTest {
    private static final Checks CHECKS = new Checks("RoomTest");
    private static final int[] ODD = {Integer.MIN_VALUE, -1000, -999, -10, -9, -4, -3, -2, -1, 0, 1, 2, 3, 4, 5, 6, 7,
        8, 9, 10, 11, 12, 13, 15, 16, 17, 20, 21, 31, 32, 79, 80, 81, 126, 127, 299, 300, 301, 400, 401, 1000,
        Integer.MAX_VALUE};
    /** 600,000 objects with a header of 16 bytes each, and 7.3 million elements of 4 bytes. */
    private static final long ROOM = 600_000L * 16 + 7_300_000L * 4;

    public static void main(String[] args) {
        oddArguments(new DimensionLines());
        oddArguments(Checks.drawn("p300"));
        oddArguments(Checks.drawn("p0,1,2,3,4,5,6,7,8,9,10,300;0-9+20-20c1;0-9c2;1-9;0-1c5"));
        oddArguments(full());
        manyCalls();
        aRunStaysInItsRoom();
        CHECKS.finish();
    }

    private static DimensionLines full() {
        DimensionLines x = new DimensionLines();
        for (int p = 0; p < 12; p++) {
            x.addPoint(p == 11 ? 300 : 7 * p);
        }
        for (int d = 0; d < 16; d++) {
            x.add(d % 5, 6 + d % 6);
            x.setTolerance(d, d, 20 - d);
            x.setChain(d, d % 8 > 5 ? 0 : d % 8);
            x.setLeast(d, d % 10);
        }
        return x;
    }

    private static void oddArguments(DimensionLines x) {
        for (int a : ODD) {
            for (int b : ODD) {
                questions(x, a, b);
            }
        }
        x.digest();
        for (int a : ODD) {
            for (int b : ODD) {
                changes(x, a, b);
            }
        }
        x.digest();
        CHECKS.holds("no call with odd arguments has thrown", true);
    }

    private static void questions(DimensionLines x, int a, int b) {
        x.point(a, b);
        x.dimension(a, b);
        x.at(a, b);
        x.distance(a, b, true);
        x.distance(a, b, false);
        for (int c : ODD) {
            x.ifExact(a, b, c);
        }
        x.critical(a, b);
        x.chain(a, b);
        x.count(a);
        x.ifArrow(a);
        x.needed();
        x.faultKind();
    }

    private static void changes(DimensionLines x, int a, int b) {
        x.addPoint(b);
        x.add(a, b);
        x.movePoint(a, b);
        x.dropPoint(a);
        x.setTolerance(a, b, b);
        x.setTolerance(0, a, b);
        x.setChain(a, b);
        x.setLeast(a, b);
        x.setLetter(a);
        x.setArrow(b);
        x.type(a);
        if (b == 5) x.drop(a);
        if (b == 9) x.undo();
        if (b == 80) x.load();
        if (b == 81) x.clearText();
    }

    private static void manyCalls() {
        DimensionLines x = full();
        for (int call = 0; call < 3000; call++) {
            x.setLeast(call % 16, call % 10);
            x.movePoint(call % 12, call * 37 % 301);
            if (call % 5 == 0) x.undo();
            x.count(3);
        }
        CHECKS.holds("none of many calls has thrown", true);
    }

    private static void aRunStaysInItsRoom() {
        com.sun.management.ThreadMXBean threads =
                (com.sun.management.ThreadMXBean) ManagementFactory.getThreadMXBean();
        long id = Thread.currentThread().getId();
        for (int kind = 0; kind < 4; kind++) {
            runOf512(kind);
            long before = threads.getThreadAllocatedBytes(id);
            runOf512(kind);
            long made = threads.getThreadAllocatedBytes(id) - before;
            CHECKS.holds("a run of kind " + kind + " makes " + made + " bytes", made < ROOM);
        }
    }

    private static void runOf512(int kind) {
        DimensionLines x = kind == 0 ? Checks.drawn(Checks.EIGHTY) : full();
        for (int call = kind == 0 ? 83 : 80; call < 512; call++) {
            switch (kind) {
                case 0: x.load(); break;
                case 1: x.digest(); break;
                case 2: x.needed(); break;
                default: if (call % 2 == 0) x.setArrow(1 + call % 9); else x.digest(); break;
            }
        }
    }
}
