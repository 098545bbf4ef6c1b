import java.math.BigInteger;
import java.util.ArrayList;
import java.util.List;
import java.util.function.Supplier;

/** Promises 26 and 27: counts of nothing and of a full drawing, and that the digest overflows. */
public final class CountBoundsTest {
    private static final Checks CHECKS = new Checks("CountBoundsTest");
    private static final int BAD = DimensionLines.BAD;
    private static final BigInteger LONGS = BigInteger.ONE.shiftLeft(64);

    public static void main(String[] args) {
        wrongCounts();
        countsOfNothing();
        countsOfAFullDrawing();
        digestOfNothing();
        digestsOverflow();
        digestsOfEachDrawing();
        digestsTakeTheirValuesInOrder();
        digestChangesNothing();
        CHECKS.finish();
    }

    private static void due(String call, long got, long want) {
        CHECKS.due(call, got, want);
    }

    private static void wrongCounts() {
        for (DimensionLines x : new DimensionLines[] {new DimensionLines(), Checks.full()}) {
            for (int wrong : new int[] {Integer.MIN_VALUE, -2, -1, 11, 12, 256, Integer.MAX_VALUE}) {
                due("count " + wrong, x.count(wrong), BAD);
            }
            CHECKS.holds("count 0", x.count(0) >= 0);
            CHECKS.holds("count 10", x.count(10) >= 0);
        }
    }

    private static void countsOfNothing() {
        CHECKS.dues("new: count", new DimensionLines()::count, 0, 0, 0, 0, 0, 0, 0, 4, 3, 0, 0);
        CHECKS.dues("one point: count", Checks.withPoints(300)::count, 1, 0, 0, 0, 0, 1, 0, 4, 3, 0, 1);
        CHECKS.dues("12 points: count", Checks.drawn(Checks.TWELVE_POINTS)::count, 12, 0, 0, 0, 0, 12, 0, 4, 3, 26, 1);
    }

    private static void countsOfAFullDrawing() {
        DimensionLines x = Checks.full();
        CHECKS.dues("full: count", x::count, 12, 16, 13, 11, x.count(4), 1, x.count(6), 6, 3, 80, 8);
        int ofPoints = 0;
        int ofDimensions = 0;
        int superfluous = 0;
        for (int p = 0; p < 12; p++) {
            ofPoints += x.point(p, 3);
        }
        for (int d = 0; d < 16; d++) {
            ofDimensions += x.dimension(d, 12);
            superfluous += x.dimension(d, 11);
        }
        CHECKS.holds("there are crossings", ofPoints > 0);
        CHECKS.holds("there are superfluous ones", superfluous > 0);
        due("crossings of points", x.count(4), ofPoints);
        due("crossings of dimensions", x.count(4), ofDimensions);
        due("superfluous dimensions", x.count(6), superfluous);
        DimensionLines eighty = Checks.drawn(Checks.EIGHTY);
        CHECKS.dues("80 characters: count", eighty::count, 2, 16, 16, 16, 0, 1, 16, 4, 3, 80, 1);
    }

    /** The values of the digest in their order; two objects, as one may be asked 512 times only. */
    private static List<Integer> values(Supplier<DimensionLines> made) {
        List<Integer> values = new ArrayList<>();
        DimensionLines x = made.get();
        for (int what = 0; what <= 10; what++) {
            values.add(x.count(what));
        }
        int points = values.get(0);
        int dimensions = values.get(1);
        for (int p = 0; p < points; p++) {
            for (int what = 0; what <= 4; what++) {
                values.add(x.point(p, what));
            }
        }
        for (int d = 0; d < dimensions; d++) {
            for (int what = 0; what <= 12; what++) {
                values.add(x.dimension(d, what));
            }
        }
        x = made.get();
        for (int a = 0; a < points; a++) {
            for (int b = a + 1; b < points; b++) {
                values.add(x.distance(a, b, false));
                values.add(x.distance(a, b, true));
                values.add(x.critical(a, b));
            }
        }
        for (int c = 1; c <= 5; c++) {
            for (int what = 0; what <= 8; what++) {
                values.add(x.chain(c, what));
            }
        }
        values.add(x.needed());
        return values;
    }

    /** The hash without any overflow. */
    private static BigInteger exactHash(List<Integer> values) {
        BigInteger h = BigInteger.valueOf(18841);
        for (int v : values) {
            h = h.multiply(BigInteger.valueOf(31)).add(BigInteger.valueOf(v));
        }
        return h;
    }

    /** "h is 18841 at first" */
    private static void digestOfNothing() {
        List<Integer> values = values(DimensionLines::new);
        due("values of a new object", values.size(), 11 + 45 + 1);
        due("digest of a new object", new DimensionLines().digest(), exactHash(values).longValue());
        due("digest of a new object, as known", new DimensionLines().digest(), -7441332540240976417L);
    }

    /** "(long arithmetic that overflows)" */
    private static void digestsOverflow() {
        overflows("new", DimensionLines::new, 57);
        overflows("full", Checks::full, 523);
        overflows("one point", () -> Checks.withPoints(0), 62);
        overflows("80 characters", () -> Checks.drawn(Checks.EIGHTY), 11 + 10 + 208 + 3 + 45 + 1);
    }

    private static void overflows(String name, Supplier<DimensionLines> made, int number) {
        List<Integer> values = values(made);
        BigInteger exact = exactHash(values);
        long digest = made.get().digest();
        due(name + ": values", values.size(), number);
        CHECKS.holds(name + ": the exact hash is no long", exact.bitLength() > 64);
        BigInteger difference = exact.subtract(BigInteger.valueOf(digest));
        due(name + ": they differ by whole ranges of long", difference.mod(LONGS).signum(), 0);
        CHECKS.holds(name + ": the digest is no int", digest != (int) digest);
    }

    private static void digestsOfEachDrawing() {
        String[] texts = {"p0", "p300", "p0,1", "p0,1;0-1", "p0,1;0-1+20-20c5", "p0,300;0-1c1;0-1c1", "p0,10,20;0-1",
            "p0,30,50,120;0-1+2-1c1;1-2+1-1c1;2-3c1;0-3+1-1;0-2", Checks.TWELVE_POINTS,
            Checks.TWELVE_POINTS + ";0-1c1;1-2c2;2-3c3;3-4c4;4-5c5;5-6+9-20;6-8;0-8", Checks.EIGHTY};
        for (String text : texts) {
            DimensionLines x = Checks.drawn(text);
            long due = exactHash(values(() -> Checks.drawn(text))).longValue();
            due("digest of " + text, x.digest(), due);
            due("digest again of " + text, x.digest(), due);
        }
    }

    /** Drawings that differ in one value alone, of each kind, have other digests. */
    private static void digestsTakeTheirValuesInOrder() {
        DimensionLines x = Checks.drawn("p0,30,60,90,200;0-1+1-2c1;1-2c2;2-3;0-3+20-20;0-3+20-20");
        long before = x.digest();
        List<Runnable> changes = List.of(() -> x.type('x'), () -> x.setLetter(5), () -> x.setArrow(4),
                () -> x.movePoint(4, 201), () -> x.setTolerance(0, 2, 2), () -> x.setTolerance(0, 2, 1),
                () -> x.setLeast(2, 1), () -> x.setChain(1, 3), () -> x.drop(4), () -> x.addPoint(300));
        for (int i = 0; i < changes.size(); i++) {
            changes.get(i).run();
            long behind = x.digest();
            CHECKS.holds("another digest behind change " + i, behind != before);
            before = behind;
        }
    }

    private static void digestChangesNothing() {
        DimensionLines x = Checks.full();
        long digest = x.digest();
        for (int i = 0; i < 3; i++) {
            due("digest again", x.digest(), digest);
        }
        x.faultKind();
        due("digest does not take faultKind", x.digest(), digest);
        CHECKS.sameWhole("behind digest", x, Checks.full());
    }
}
