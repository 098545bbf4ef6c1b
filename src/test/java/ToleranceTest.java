/** Promises 19 to 22: distance, ifExact, critical, needed; superfluous dimensions. */
public final class ToleranceTest {
    private static final Checks CHECKS = new Checks("ToleranceTest");
    private static final int BAD = DimensionLines.BAD;
    private static final int NONE = DimensionLines.NONE;
    private static final String TRIANGLE = "p0,30,50;0-1+2-1;1-2+1-3;0-2+1-1";

    public static void main(String[] args) {
        promise19Distance();
        promise19WrongPoints();
        superfluousDimensions();
        promise20IfExact();
        promise21Critical();
        promise22Needed();
        CHECKS.finish();
    }

    private static void due(String call, long got, long want) {
        CHECKS.due(call, got, want);
    }

    private static void bounds(String name, DimensionLines x, int a, int b, int least, int greatest) {
        due(name + ": least from " + a + " to " + b, x.distance(a, b, false), least);
        due(name + ": greatest from " + a + " to " + b, x.distance(a, b, true), greatest);
        due(name + ": least from " + b + " to " + a, x.distance(b, a, false), -greatest);
        due(name + ": greatest from " + b + " to " + a, x.distance(b, a, true), -least);
    }

    private static void promise19Distance() {
        DimensionLines x = Checks.drawn("p0,30,50;0-1+2-1;1-2+1-3");
        bounds("a row", x, 0, 1, 29, 32);
        bounds("a row", x, 1, 2, 17, 21);
        bounds("a row", x, 0, 2, 46, 53);
        bounds("a triangle", Checks.drawn(TRIANGLE), 0, 2, 49, 51);
        bounds("a triangle", Checks.drawn(TRIANGLE), 0, 1, 29, 32);
        x = Checks.drawn("p0,30,50;0-1+9-9;0-2+1-1;1-2+1-1");
        bounds("around", x, 0, 1, 28, 32);
        x = Checks.drawn("p0,10,12;0-2+3-4;0-1+5-6");
        bounds("by a common first end", x, 1, 2, -7, 11);
        x = Checks.drawn("p0,10,12;0-2+3-4;1-2+5-6");
        bounds("by a common second end", x, 0, 1, 1, 19);
        x = Checks.drawn("p0,2;0-1+20-20");
        bounds("a distance that can be negative", x, 0, 1, -18, 22);
        x = Checks.drawn("p0,40;0-1+5-1;0-1+2-9");
        bounds("two with the same ends", x, 0, 1, 39, 42);
        x = Checks.drawn("p0,20,40,60,80;0-4;0-2+20-20;1-2+1-1;3-4+2-2;2-3+3-3");
        bounds("a long way", x, 0, 1, 14, 26);
        bounds("a long way", x, 1, 3, 36, 44);
        bounds("a long way", x, 0, 4, 80, 80);
        bounds("a long way", x, 0, 2, 35, 45);
        x = Checks.drawn("p0,25,50,75,100,125,150,175,200,225,250,300");
        for (int p = 11; p > 0; p--) {
            x.setTolerance(x.add(p - 1, p), 20, 20);
        }
        bounds("a way through all points", x, 0, 11, 80, 520);
    }

    private static void promise19WrongPoints() {
        DimensionLines x = Checks.drawn("p0,30,50,70,90;0-1+2-1;2-3");
        due("distance of points not bound", x.distance(0, 2, true), NONE);
        due("least distance of points not bound", x.distance(3, 1, false), NONE);
        due("distance to a point that is no end", x.distance(0, 4, true), NONE);
        due("distance of one point", x.distance(1, 1, true), BAD);
        due("distance of one point that is no end", x.distance(4, 4, false), BAD);
        due("distance of -1", x.distance(-1, 1, true), BAD);
        due("distance to -1", x.distance(1, -1, true), BAD);
        due("distance of 5", x.distance(5, 1, true), BAD);
        due("distance to 5", x.distance(1, 5, true), BAD);
        x.add(1, 2);
        bounds("bound then", x, 0, 3, 69, 72);
        x.undo();
        due("not bound behind undo", x.distance(0, 3, true), NONE);
    }

    private static void superfluous(String text, int... superfluous) {
        DimensionLines x = Checks.drawn(text);
        int number = 0;
        for (int d = 0; d < superfluous.length; d++) {
            due(text + ": superfluous " + d, x.dimension(d, 11), superfluous[d]);
            number += superfluous[d];
        }
        due(text + ": superfluous ones", x.count(6), number);
    }

    private static void superfluousDimensions() {
        superfluous(TRIANGLE, 0, 0, 0);
        superfluous("p0,30,50;0-1+2-1;1-2+2-3;0-2+1-1", 0, 1, 0);
        superfluous("p0,30,50;0-1+2-1;1-2+3-4;0-2+1-1", 0, 1, 0);
        superfluous("p0,30,50;0-1+2-1;1-2+2-2;0-2+1-1", 0, 0, 0);
        superfluous("p0,30,50;0-1+4-2;1-2+1-3;0-2+1-1", 1, 0, 0);
        superfluous("p0,30,50;0-1+4-1;1-2+1-3;0-2+1-1", 0, 0, 0);
        superfluous("p0,30,50;0-1+3-2;1-2+1-3;0-2+1-1", 0, 0, 0);
        superfluous("p0,30,50;0-1;1-2;0-2", 1, 1, 1);
        superfluous("p0,30,50;0-1;1-2", 0, 0);
        superfluous("p0,30;0-1+20-20", 0);
        superfluous("p0,30;0-1;0-1", 1, 1);
        superfluous("p0,30;0-1+1;0-1", 1, 0);
        superfluous("p0,30;0-1+1;0-1-1", 0, 0);
        superfluous("p0,30,50,60;0-1;1-3;0-2;2-3;2-3", 1, 1, 1, 1, 1);
        superfluous("p0,30,50,60;0-1;0-1+1;2-3+20-20", 0, 1, 0);
    }

    private static void promise20IfExact() {
        DimensionLines x = Checks.drawn(TRIANGLE);
        int[][] gains = {{3, 1, 0}, {2, 4, 1}, {0, 0, 2}};
        int[][] pairs = {{0, 1}, {1, 2}, {0, 2}};
        long before = x.digest();
        for (int i = 0; i < 3; i++) {
            for (int d = 0; d < 3; d++) {
                String call = "ifExact " + d + " from " + pairs[i][0] + " to " + pairs[i][1];
                due(call, x.ifExact(d, pairs[i][0], pairs[i][1]), gains[i][d]);
                due(call + ", back", x.ifExact(d, pairs[i][1], pairs[i][0]), gains[i][d]);
            }
        }
        due("ifExact changes nothing", x.digest(), before);
        due("ifExact of -1", x.ifExact(-1, 0, 1), BAD);
        due("ifExact of 3", x.ifExact(3, 0, 1), BAD);
        due("ifExact from -1", x.ifExact(0, -1, 1), BAD);
        due("ifExact to 3", x.ifExact(0, 1, 3), BAD);
        due("ifExact of one point", x.ifExact(0, 1, 1), BAD);
        x = Checks.drawn("p0,30,50,70,90;0-1+2-1;2-3+1-1;2-3+5-5");
        due("ifExact of points not bound", x.ifExact(0, 0, 2), NONE);
        due("ifExact of points not bound, no such dimension", x.ifExact(3, 0, 2), BAD);
        due("ifExact of another group", x.ifExact(1, 0, 1), 0);
        due("ifExact of a group behind", x.ifExact(0, 2, 3), 0);
        due("ifExact of the wider one of two", x.ifExact(2, 2, 3), 2);
        due("ifExact of the narrower one of two", x.ifExact(1, 3, 2), 2);
        x = Checks.drawn("p0,30;0-1+2-5");
        due("ifExact of the only one", x.ifExact(0, 0, 1), 7);
    }

    private static void promise21Critical() {
        DimensionLines x = Checks.drawn(TRIANGLE);
        due("critical 0, 1", x.critical(0, 1), 0);
        due("critical 1, 2", x.critical(1, 2), 1);
        due("critical 2, 0", x.critical(2, 0), 2);
        due("critical of -1", x.critical(-1, 0), BAD);
        due("critical to 3", x.critical(0, 3), BAD);
        due("critical of one point", x.critical(2, 2), BAD);
        x = Checks.drawn("p0,30,50,70;0-1;0-1;1-2");
        due("critical without tolerances", x.critical(0, 2), 0);
        due("critical of points not bound", x.critical(0, 3), NONE);
        due("critical without dimensions", Checks.drawn("p0,1").critical(0, 1), NONE);
        x = Checks.drawn("p0,30,50,70;2-3+9-9;0-1+1-1;0-1+9-9;1-2+2;0-3+20-20;2-3+1-1");
        due("critical of two the same", Checks.drawn("p0,9,20;0-1+1-2;1-2+2-1").critical(0, 2), 0);
        due("critical in the middle", x.critical(0, 1), 1);
        due("critical behind", x.critical(1, 3), 0);
        x = Checks.drawn("p0,30,50,70;2-3+9-9;0-1+1-1");
        due("critical of another group", x.critical(0, 1), 1);
    }

    private static void needs(String text, int needed) {
        DimensionLines x = Checks.drawn(text);
        long before = x.digest();
        due(text + ": needed", x.needed(), needed);
        due(text + ": needed again", x.needed(), needed);
        due(text + ": needed changes nothing", x.digest(), before);
    }

    private static void neededBetweenChanges() {
        DimensionLines x = Checks.drawn("p0,30,50;0-1;0-1;0-1;1-2+1");
        due("needed before a change", x.needed(), 2);
        due("superfluous before a change", x.count(6), 3);
        x.setTolerance(0, 5, 5);
        due("needed behind a change", x.needed(), 2);
        x.drop(0);
        due("superfluous behind drop", x.count(6), 2);
        due("needed behind drop", x.needed(), 2);
        x.drop(0);
        bounds("behind needed and drop", x, 0, 1, 30, 30);
        bounds("behind needed and drop", x, 0, 2, 50, 51);
        due("superfluous behind drop of another", x.count(6), 0);
        x.setTolerance(1, 7, 7);
        bounds("behind needed and a tolerance", x, 0, 2, 43, 57);
        x.undo();
        bounds("behind undo", x, 0, 2, 50, 51);
    }

    private static void promise22Needed() {
        due("needed without dimensions", new DimensionLines().needed(), 0);
        neededBetweenChanges();
        needs(TRIANGLE, 3);
        needs("p0,30,50;0-1;1-2;0-2", 2);
        needs("p0,30;0-1;0-1;0-1", 1);
        needs("p0,30;0-1+1-1;0-1+2-1;0-1+1-3", 1);
        needs("p0,30;0-1+1-3;0-1+2-1;0-1+1-1", 2);
        needs("p0,20,50;1-2;1-2-2;0-1+3;1-2+3;0-2+3-3", 2);
        needs("p0,20,50;0-1+1-1;1-2;0-2-3;0-2-1", 3);
        needs("p0,30,50,60;0-1;2-3", 2);
        needs("p0,1" + ";0-1".repeat(16), 1);
    }
}
