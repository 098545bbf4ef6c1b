/** Promises 26 and 27: count and digest. */
public final class CountTest {
    private static final Checks CHECKS = new Checks("CountTest");
    private static final int BAD = DimensionLines.BAD;

    public static void main(String[] args) {
        promise26Count();
        promise26EachCount();
        promise27Digest();
        CHECKS.finish();
    }

    private static void due(String call, long got, long want) {
        CHECKS.due(call, got, want);
    }

    private static void counts(String name, DimensionLines x, int... counts) {
        for (int what = 0; what < counts.length; what++) {
            due(name + ": count " + what, x.count(what), counts[what]);
        }
    }

    private static void promise26Count() {
        String text = "p0,30,50,120;0-1+2-1c1;1-2+1-1c1;2-3c1;0-3+1-1;0-2";
        DimensionLines x = Checks.drawn(text);
        counts(text, x, 4, 5, 3, 3, 1, 1, 2, 4, 3, text.length(), 1);
        due("count -1", x.count(-1), BAD);
        due("count 11", x.count(11), BAD);
        due("count least", x.count(Integer.MIN_VALUE), BAD);
        due("count greatest", x.count(Integer.MAX_VALUE), BAD);
    }

    private static void promise26EachCount() {
        DimensionLines x = Checks.drawn("p0,30,60,90,200;0-1c1;1-2c2;0-1c1;2-3c2;3-4;3-4");
        counts("units", x, 5, 6, 4, 3, 0, 1, 4);
        x.setLeast(4, 9);
        due("lanes, some of them empty", x.count(3), 11);
        x.setLetter(2);
        x.setArrow(8);
        x.type('p');
        due("letter", x.count(7), 2);
        due("arrow", x.count(8), 8);
        due("states", x.count(10), 4);
        due("characters", x.count(9), 48);
        counts("points alone", Checks.drawn("p0,1,2"), 3, 0, 0, 0, 0, 3, 0, 4, 3, 6, 1);
    }

    private static void promise27Digest() {
        due("digest of a new object", new DimensionLines().digest(), -7441332540240976417L);
        DimensionLines x = Checks.drawn("p0,30,50,120;0-1+2-1c1;1-2+1-1c1;2-3c1;0-3+1-1;0-2");
        x.setArrow(9);
        x.movePoint(1, 200);
        due("undo", x.undo(), 2);
        due("digest behind changes", x.digest(), 8849646146924899685L);
    }
}
