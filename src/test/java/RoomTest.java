import java.lang.management.ManagementFactory;

/**
 * No call throws, whatever its arguments, also behind the 512th one; and no call makes objects, so
 * that a run stays in its room.
 */
public final class RoomTest {
    private static final Checks CHECKS = new Checks("RoomTest");
    private static final int[] ODD = {Integer.MIN_VALUE, -1000, -999, -10, -9, -4, -3, -2, -1, 0, 1, 2, 3, 4, 5, 6, 7,
        8, 9, 10, 11, 12, 13, 15, 16, 17, 20, 21, 31, 32, 79, 80, 81, 126, 127, 299, 300, 301, 400, 401, 1000,
        Integer.MAX_VALUE};

    public static void main(String[] args) {
        oddArguments(new DimensionLines());
        oddArguments(Checks.drawn("p300"));
        oddArguments(Checks.drawn("p0,1,2,3,4,5,6,7,8,9,10,300;0-9+20-20c1;0-9c2;1-9;0-1c5"));
        oddArguments(full());
        manyCalls();
        callsMakeNoObjects();
        CHECKS.finish();
    }

    private static DimensionLines full() {
        DimensionLines x = new DimensionLines();
        for (int p = 0; p < 12; p++) {
            x.addPoint(p == 11 ? 300 : 7 * p);
        }
        for (int d = 0; d < 16; d++) {
            x.add(d % 5, 6 + d % 6);
            x.setTolerance(d, d, 20 - d);
            x.setChain(d, d % 8 > 5 ? 0 : d % 8);
            x.setLeast(d, d % 10);
        }
        return x;
    }

    private static void oddArguments(DimensionLines x) {
        long before = x.digest();
        for (int a : ODD) {
            for (int b : ODD) {
                questions(x, a, b);
            }
        }
        CHECKS.due("questions change nothing", x.digest(), before);
        for (int a : ODD) {
            for (int b : ODD) {
                changes(x, a, b);
                CHECKS.holds("points", x.count(0) >= 0 && x.count(0) <= 12);
                CHECKS.holds("dimensions", x.count(1) >= 0 && x.count(1) <= 16);
                CHECKS.holds("states", x.count(10) >= 0 && x.count(10) <= 8);
            }
        }
    }

    private static void questions(DimensionLines x, int a, int b) {
        x.point(a, b);
        x.dimension(a, b);
        x.at(a, b);
        x.distance(a, b, true);
        x.distance(a, b, false);
        for (int c : ODD) {
            x.ifExact(a, b, c);
        }
        x.critical(a, b);
        x.chain(a, b);
        x.count(a);
        x.ifArrow(a);
        x.needed();
        x.faultKind();
    }

    private static void changes(DimensionLines x, int a, int b) {
        x.addPoint(b);
        x.add(a, b);
        x.movePoint(a, b);
        x.dropPoint(a);
        x.setTolerance(a, b, b);
        x.setTolerance(0, a, b);
        x.setChain(a, b);
        x.setLeast(a, b);
        x.setLetter(a);
        x.setArrow(b);
        x.type(a);
        if (b == 5) x.drop(a);
        if (b == 9) x.undo();
        if (b == 80) x.load();
        if (b == 81) x.clearText();
    }

    private static void manyCalls() {
        DimensionLines x = full();
        for (int call = 0; call < 3000; call++) {
            x.setLeast(call % 16, call % 10);
            x.movePoint(call % 12, call * 37 % 301);
            if (call % 5 == 0) x.undo();
            CHECKS.holds("lanes", x.count(3) >= 1 && x.count(3) <= 25);
        }
    }

    private static void callsMakeNoObjects() {
        com.sun.management.ThreadMXBean threads =
                (com.sun.management.ThreadMXBean) ManagementFactory.getThreadMXBean();
        DimensionLines x = full();
        Checks.typeText(x, "p0,30,50,120;0-1+2-1c1;1-2+1-1c1;2-3c1;0-3+1-1;0-2");
        calls(x);
        long id = Thread.currentThread().getId();
        long before = threads.getThreadAllocatedBytes(id);
        for (int i = 0; i < 200; i++) {
            calls(x);
        }
        long made = threads.getThreadAllocatedBytes(id) - before;
        CHECKS.holds("bytes made by calls: " + made, made < 20000);
    }

    private static void calls(DimensionLines x) {
        x.load();
        x.digest();
        x.undo();
        x.digest();
        x.addPoint(299);
        x.movePoint(3, 298);
        x.drop(3);
        x.add(2, 3);
        x.ifArrow(9);
        x.ifExact(1, 2, 3);
        x.at(3, 40);
        x.type('x');
        x.clearText();
        Checks.typeText(x, "p0,30;0-1");
    }
}
