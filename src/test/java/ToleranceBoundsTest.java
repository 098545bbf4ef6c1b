/**
 * "Tolerances", promises 19 to 23: points that are not bound, distances just at a tolerance and one
 * beyond, chains without dimensions.
 */
public final class ToleranceBoundsTest {
    private static final Checks CHECKS = new Checks("ToleranceBoundsTest");
    private static final int BAD = DimensionLines.BAD;
    private static final int NONE = DimensionLines.NONE;
    private static final int LEAST = Integer.MIN_VALUE;
    private static final int GREATEST = Integer.MAX_VALUE;

    public static void main(String[] args) {
        smallestAndGreatestTolerances();
        negativeDistances();
        theNarrowestOfSeveralWays();
        theLongestWay();
        pointsThatAreNotBound();
        pointsThatNoLongerAreBound();
        wrongPoints();
        wrongDimensions();
        superfluousJustAtTheBounds();
        superfluousBoundWithout();
        ifExactOfNone();
        ifExactOfMost();
        criticalOfSeveral();
        neededOfNoneAndOfAll();
        neededFromTheGreatestNumber();
        neededLeavesTheDistances();
        chainsWithoutDimensions();
        chainsWithOneAndWithAll();
        closedChains();
        overAChain();
        wrongChains();
        CHECKS.finish();
    }

    private static void due(String call, long got, long want) {
        CHECKS.due(call, got, want);
    }

    private static void bounds(String call, DimensionLines x, int a, int b, int least, int greatest) {
        due(call + ": least from " + a + " to " + b, x.distance(a, b, false), least);
        due(call + ": greatest from " + a + " to " + b, x.distance(a, b, true), greatest);
        due(call + ": least from " + b + " to " + a, x.distance(b, a, false), -greatest);
        due(call + ": greatest from " + b + " to " + a, x.distance(b, a, true), -least);
    }

    private static void bounds(String text, int a, int b, int least, int greatest) {
        bounds(text, Checks.drawn(text), a, b, least, greatest);
    }

    /** "at least its value minus its minus, and at most its value plus its plus" */
    private static void smallestAndGreatestTolerances() {
        bounds("p0,50;0-1", 0, 1, 50, 50);
        bounds("p0,50;0-1-1", 0, 1, 49, 50);
        bounds("p0,50;0-1+1", 0, 1, 50, 51);
        bounds("p0,50;0-1-20", 0, 1, 30, 50);
        bounds("p0,50;0-1+20", 0, 1, 50, 70);
        bounds("p0,300;0-1+20-20", 0, 1, 280, 320);
        bounds("p0,50;0-1+20-20;0-1", 0, 1, 50, 50);
        bounds("p0,50;0-1+20;0-1-20", 0, 1, 50, 50);
        bounds("p0,50;0-1+2-20;0-1+20-3", 0, 1, 47, 52);
    }

    /** "which is negative if b lies before a by then" */
    private static void negativeDistances() {
        bounds("p0,1;0-1+20-20", 0, 1, -19, 21);
        bounds("p0,20;0-1-20", 0, 1, 0, 20);
        bounds("p0,19;0-1-20", 0, 1, -1, 19);
        bounds("p0,10,11;0-2+20-20;0-1+20-20", 1, 2, -39, 41);
    }

    private static void theNarrowestOfSeveralWays() {
        bounds("p0,30,50;0-1+2-1;1-2+1-3", 0, 2, 46, 53);
        bounds("p0,30,50;0-1+2-1;1-2+1-3;0-2+3-4", 0, 2, 46, 53);
        bounds("p0,30,50;0-1+2-1;1-2+1-3;0-2+2-4", 0, 2, 46, 52);
        bounds("p0,30,50;0-1+2-1;1-2+1-3;0-2+3-3", 0, 2, 47, 53);
        bounds("p0,30,50;0-2+1-2;1-2+3-4", 0, 1, 25, 35);
        bounds("p0,30,50;0-2+1-2;0-1+3-4", 1, 2, 15, 25);
        bounds("p0,30,50,90;0-3+1-2;0-1+3-4;2-3+5-6", 1, 2, 10, 31);
    }

    /** By all 12 points; dimensions are added from the last one, so that a way is found at length. */
    private static void theLongestWay() {
        DimensionLines up = Checks.withPoints(0, 25, 50, 75, 100, 125, 150, 175, 200, 225, 250, 300);
        DimensionLines down = Checks.withPoints(0, 25, 50, 75, 100, 125, 150, 175, 200, 225, 250, 300);
        for (int p = 0; p < 11; p++) {
            up.setTolerance(up.add(p, p + 1), 20, 20);
            down.setTolerance(down.add(10 - p, 11 - p), 20, 20);
        }
        for (DimensionLines x : new DimensionLines[] {up, down}) {
            bounds("12 points", x, 0, 11, 80, 520);
            bounds("12 points", x, 0, 10, 50, 450);
            bounds("12 points", x, 1, 11, 75, 475);
            due("12 points: groups", x.count(5), 1);
            due("12 points: critical", x.critical(0, 11), 0);
            due("12 points: ifExact", x.ifExact(5, 11, 0), 40);
            due("12 points: needed", x.needed(), 11);
        }
        DimensionLines turns = Checks.withPoints(0, 1, 2, 3, 4, 5, 295, 296, 297, 298, 299, 300);
        for (int p = 0; p < 5; p++) {
            turns.setTolerance(turns.add(p, 11 - p), 20, 0);
            turns.setTolerance(turns.add(11 - p, p + 1), 0, 20);
        }
        bounds("there and back", turns, 0, 5, -195, 5);
        due("there and back: not bound", turns.distance(0, 6, true), NONE);
    }

    /** "NONE if the points are not bound" */
    private static void pointsThatAreNotBound() {
        DimensionLines x = Checks.drawn("p0,10,20,30,40,50;0-1+1-1;2-3+2-2;3-4");
        int[][] apart = {{0, 2}, {1, 2}, {1, 3}, {0, 4}, {0, 5}, {4, 5}, {2, 5}};
        for (int[] pair : apart) {
            for (int turned = 0; turned < 2; turned++) {
                int a = pair[turned];
                int b = pair[1 - turned];
                due("least from " + a + " to " + b, x.distance(a, b, false), NONE);
                due("greatest from " + a + " to " + b, x.distance(a, b, true), NONE);
                due("critical from " + a + " to " + b, x.critical(a, b), NONE);
                for (int d = 0; d < 3; d++) {
                    due("ifExact " + d + " from " + a + " to " + b, x.ifExact(d, a, b), NONE);
                }
            }
        }
        bounds("bound over another", x, 2, 4, 18, 22);
        DimensionLines alone = Checks.withPoints(5, 6);
        due("two points without dimensions", alone.distance(0, 1, true), NONE);
        due("critical without dimensions", alone.critical(1, 0), NONE);
    }

    private static void pointsThatNoLongerAreBound() {
        DimensionLines x = Checks.drawn("p0,10,20;0-1;1-2");
        bounds("bound", x, 0, 2, 20, 20);
        x.drop(1);
        due("not bound behind drop", x.distance(0, 2, true), NONE);
        due("groups behind drop", x.count(5), 2);
        x.undo();
        bounds("bound behind undo", x, 0, 2, 20, 20);
        due("groups behind undo", x.count(5), 1);
        x.addPoint(15);
        due("a new point is not bound", x.distance(1, 2, false), NONE);
        bounds("bound over a new point", x, 1, 3, 10, 10);
    }

    /** "BAD if there is no such point, or both are the same" */
    private static void wrongPoints() {
        for (int size : new int[] {0, 1, 2, 12}) {
            DimensionLines x = new DimensionLines();
            for (int p = 0; p < size; p++) {
                x.addPoint(10 * p);
            }
            x.add(0, 1);
            for (int wrong : new int[] {LEAST, -1, size, GREATEST}) {
                due(size + ": distance from " + wrong, x.distance(wrong, 0, true), BAD);
                due(size + ": distance to " + wrong, x.distance(0, wrong, false), BAD);
                due(size + ": ifExact from " + wrong, x.ifExact(0, wrong, 0), BAD);
                due(size + ": ifExact to " + wrong, x.ifExact(0, 0, wrong), BAD);
                due(size + ": critical from " + wrong, x.critical(wrong, 0), BAD);
                due(size + ": critical to " + wrong, x.critical(0, wrong), BAD);
            }
            for (int p = 0; p < size; p++) {
                due(size + ": distance of one point", x.distance(p, p, true), BAD);
                due(size + ": least distance of one point", x.distance(p, p, false), BAD);
                due(size + ": ifExact of one point", x.ifExact(0, p, p), BAD);
                due(size + ": critical of one point", x.critical(p, p), BAD);
            }
        }
    }

    private static void wrongDimensions() {
        DimensionLines x = Checks.full();
        for (int wrong : new int[] {LEAST, -1, 16, GREATEST}) {
            due("ifExact of " + wrong, x.ifExact(wrong, 0, 11), BAD);
        }
        CHECKS.holds("ifExact of the first one", x.ifExact(0, 0, 1) >= 0);
        CHECKS.holds("ifExact of the last one", x.ifExact(15, 10, 11) >= 0);
        due("ifExact without dimensions", Checks.withPoints(0, 1).ifExact(0, 0, 1), BAD);
    }

    private static void superfluous(String text, int... superfluous) {
        DimensionLines x = Checks.drawn(text);
        CHECKS.dues(text + ": superfluous", d -> x.dimension(d, 11), superfluous);
        int number = 0;
        for (int one : superfluous) {
            number += one;
        }
        due(text + ": superfluous ones", x.count(6), number);
    }

    /** "between (or at) its value minus its minus and its value plus its plus" */
    private static void superfluousJustAtTheBounds() {
        superfluous("p0,30,50;0-1+2-1;1-2+1-3;0-2+3-4", 0, 0, 1);
        superfluous("p0,30,50;0-1+2-1;1-2+1-3;0-2+2-4", 0, 0, 0);
        superfluous("p0,30,50;0-1+2-1;1-2+1-3;0-2+3-3", 0, 0, 0);
        superfluous("p0,30,50;0-1+2-1;1-2+1-3;0-2+4-5", 0, 0, 1);
        superfluous("p0,30;0-1+2-3;0-1+2-3", 1, 1);
        superfluous("p0,30;0-1+2-3;0-1+2-4", 0, 1);
        superfluous("p0,30;0-1+2-3;0-1+3-3", 0, 1);
        superfluous("p0,30;0-1+2-3;0-1+3-2", 0, 0);
        superfluous("p0,30;0-1+20-20;0-1", 1, 0);
        superfluous("p0,30,50;0-2+1-2;1-2+3-4;0-1+5-5", 0, 0, 1);
        superfluous("p0,30,50;0-2+1-2;1-2+3-4;0-1+5-4", 0, 0, 0);
        superfluous("p0,30,50;0-2+1-2;1-2+3-4;0-1+4-5", 0, 0, 0);
    }

    /** "if its ends are bound without it" */
    private static void superfluousBoundWithout() {
        superfluous("p0,30;0-1", 0);
        superfluous("p0,30;0-1+20-20", 0);
        superfluous("p0,30,50;0-1+20-20;1-2+20-20", 0, 0);
        superfluous("p0,30,50,90;0-1;2-3;0-1;2-3", 1, 1, 1, 1);
        superfluous("p0,30,50,90;0-1;2-3+20-20;0-1", 1, 0, 1);
        superfluous("p0,1" + ";0-1".repeat(16), 1, 1, 1, 1, 1, 1, 1, 1, 1, 1, 1, 1, 1, 1, 1, 1);
        due("superfluous ones of none", new DimensionLines().count(6), 0);
    }

    private static void ifExactOfNone() {
        DimensionLines x = Checks.drawn("p0,30,50,90,95;0-1;1-2+3-4;2-3+5-6;0-1+7-7");
        due("ifExact without tolerances", x.ifExact(0, 0, 1), 0);
        due("ifExact of one off the way", x.ifExact(2, 0, 2), 0);
        due("ifExact of one on the way", x.ifExact(1, 0, 2), 7);
        due("ifExact of one beside a narrower one", x.ifExact(3, 0, 3), 0);
        due("ifExact without tolerances, a way with some", x.ifExact(0, 0, 3), 0);
        due("ifExact to a point that is not bound", x.ifExact(1, 0, 4), NONE);
    }

    private static void ifExactOfMost() {
        due("ifExact of the greatest tolerances", Checks.drawn("p0,1;0-1+20-20").ifExact(0, 0, 1), 40);
        due("the same backwards", Checks.drawn("p0,1;0-1+20-20").ifExact(0, 1, 0), 40);
        due("only a minus", Checks.drawn("p0,1;0-1-20").ifExact(0, 0, 1), 20);
        due("only a plus", Checks.drawn("p0,1;0-1+20").ifExact(0, 0, 1), 20);
        DimensionLines x = Checks.drawn("p0,30,50;0-1+2-1;1-2+1-3;0-2+1-1");
        due("of one way for another", x.ifExact(2, 0, 1), 0);
        due("of a part of another way", x.ifExact(0, 1, 2), 2);
        x.ifExact(0, 0, 1);
        bounds("nothing changes", x, 0, 1, 29, 32);
    }

    /** "Returns the dimension with the greatest ifExact(), of several the smallest one" */
    private static void criticalOfSeveral() {
        due("all are 0", Checks.drawn("p0,30,50;0-1;1-2").critical(0, 2), 0);
        due("all are 0, one of another group", Checks.drawn("p0,9,30,50;0-1+9-9;2-3").critical(2, 3), 0);
        due("two the same", Checks.drawn("p0,30,50;0-1+3-4;1-2+4-3").critical(0, 2), 0);
        due("the second one by 1", Checks.drawn("p0,30,50;0-1+3-4;1-2+4-4").critical(0, 2), 1);
        due("the first one by 1", Checks.drawn("p0,30,50;0-1+4-4;1-2+3-4").critical(2, 0), 0);
        due("two the same behind another", Checks.drawn("p0,30,50;1-2+1;0-1+1-1;0-1+1-1;1-2+1-1").critical(0, 1), 1);
        DimensionLines x = Checks.withPoints(0, 1);
        for (int d = 0; d < 16; d++) {
            x.add(0, 1);
            x.setTolerance(d, 20, 20);
        }
        due("16 the same", x.critical(0, 1), 0);
        x.setTolerance(15, 0, 0);
        due("16, the last one without tolerances", x.critical(0, 1), 0);
        x = Checks.drawn("p0,1,2;0-1" + ";1-2".repeat(14));
        x.add(0, 1);
        x.drop(0);
        x.setTolerance(14, 0, 1);
        due("the last of 15", x.critical(1, 0), 14);
    }

    private static void neededOfNoneAndOfAll() {
        due("needed of none", new DimensionLines().needed(), 0);
        due("needed of points alone", Checks.withPoints(1, 2, 3).needed(), 0);
        due("needed of one", Checks.drawn("p0,1;0-1+20-20").needed(), 1);
        due("needed of 16 the same", Checks.drawn("p0,1" + ";0-1".repeat(16)).needed(), 1);
        DimensionLines x = Checks.full();
        for (int d = 0; d < 16; d++) {
            x.setTolerance(d, 0, 0);
        }
        due("needed of 16 between 12 points", x.needed(), 11);
        due("superfluous ones of them", x.count(6), 16);
        x.drop(13);
        due("needed of 15", x.needed(), 11);
        due("superfluous ones of 15", x.count(6), 14);
    }

    /** "each time the one with the greatest number of those that are superfluous then" */
    private static void neededFromTheGreatestNumber() {
        DimensionLines last = Checks.drawn("p0,20,50;1-2;1-2-2;0-1+3;1-2+3;0-2+3-3");
        due("needed, of a triangle", last.needed(), 2);
        needs("p0,30,50;0-1;1-2;0-2", 2);
        needs("p0,10,20;0-2-1;0-1-1;1-2-1;0-2", 3);
        needs("p0,10,20;0-2;0-1-1;1-2-1;0-2-1", 3);
        needs("p0,10,20;0-1;1-2+1-1;0-2+1-1", 2);
        needs("p0,10,20;1-2+1-1;0-2+1-1;0-1", 2);
        needs("p0,10,20,30;0-1;1-2;2-3;0-2;1-3;0-3", 3);
        needs("p0,10;0-1+1;0-1-1;0-1+1-1", 2);
        needs("p0,10;0-1+1-1;0-1+1;0-1-1", 2);
        needs("p0,10;0-1;0-1+1;0-1-1", 1);
        needs("p0,10;0-1+1;0-1-1;0-1", 2);
    }

    private static void needs(String text, int needed) {
        DimensionLines x = Checks.drawn(text);
        due(text + ": needed", x.needed(), needed);
        due(text + ": dimensions stay", x.count(1), text.split(";").length - 1);
        due(text + ": needed again", x.needed(), needed);
    }

    /** "Nothing changes.": also what is asked behind a later change is as if needed() had not been asked. */
    private static void neededLeavesTheDistances() {
        DimensionLines x = Checks.drawn("p0,30,50;0-1+9-9;1-2;0-1+5-5;1-2+9-9");
        due("needed", x.needed(), 2);
        bounds("behind needed", x, 0, 1, 25, 35);
        due("superfluous ones behind needed", x.count(6), 2);
        x.setTolerance(0, 1, 1);
        bounds("behind a change of a superfluous one", x, 0, 1, 29, 31);
        x.setTolerance(1, 20, 20);
        bounds("behind a change of another", x, 1, 2, 11, 29);
        x.setTolerance(3, 2, 3);
        bounds("behind a change of the last one", x, 1, 2, 18, 23);
    }

    private static void chain(String call, DimensionLines x, int chain, int... properties) {
        CHECKS.dues(call + ": chain " + chain + ", ", what -> x.chain(chain, what), properties);
    }

    /** "NONE for 1, 2, 3, 7 and 8 if it has no dimensions" */
    private static void chainsWithoutDimensions() {
        DimensionLines x = Checks.drawn("p0,30,60;0-1+1-1;1-2c3;0-2");
        for (int number = 1; number <= 5; number++) {
            chain("new", new DimensionLines(), number, 0, NONE, NONE, NONE, 0, 0, 0, NONE, NONE);
            chain("points alone", Checks.withPoints(0, 300), number, 0, NONE, NONE, NONE, 0, 0, 0, NONE, NONE);
            if (number != 3) {
                chain("others", x, number, 0, NONE, NONE, NONE, 0, 0, 0, NONE, NONE);
            }
        }
        x.setChain(1, 0);
        chain("behind setChain", x, 3, 0, NONE, NONE, NONE, 0, 0, 0, NONE, NONE);
        x.setChain(1, 3);
        x.drop(1);
        chain("behind drop", x, 3, 0, NONE, NONE, NONE, 0, 0, 0, NONE, NONE);
        x.undo();
        chain("behind undo", x, 3, 1, 30, 60, 1, 30, 0, 0, NONE, 1);
    }

    private static void chainsWithOneAndWithAll() {
        DimensionLines x = Checks.withPoints(0, 300);
        for (int d = 0; d < 16; d++) {
            x.add(0, 1);
            x.setTolerance(d, 20, 19);
            x.setChain(d, 5);
        }
        chain("all 16", x, 5, 16, 0, 300, 0, 4800, 320, 304, NONE, 0);
        x.setLeast(15, 9);
        due("all 16: lane", x.chain(5, 8), 9);
        x.setChain(15, 1);
        chain("15 of 16", x, 5, 15, 0, 300, 0, 4500, 300, 285, 15, 0);
        chain("one of 16", x, 1, 1, 0, 300, 1, 300, 20, 19, 0, 9);
        chain("one", Checks.drawn("p7,8;0-1c1"), 1, 1, 7, 8, 1, 1, 0, 0, NONE, 0);
        DimensionLines rows = Checks.withPoints(0, 1, 2, 3, 4, 5, 6, 7, 8, 9, 10, 300);
        for (int d = 0; d < 11; d++) {
            rows.add(10 - d, 11 - d);
            rows.setChain(d, 4);
        }
        chain("by 12 points", rows, 4, 11, 0, 300, 1, 300, 0, 0, NONE, 0);
    }

    private static void closed(String text, int closed) {
        due(text + ": closed", Checks.drawn(text).chain(1, 3), closed);
    }

    /** "each one but the first begins at the end of the one before it" */
    private static void closedChains() {
        closed("p0,10,20,30;0-1c1", 1);
        closed("p0,10,20,30;2-3c1", 1);
        closed("p0,10,20,30;0-1c1;1-2c1", 1);
        closed("p0,10,20,30;1-2c1;0-1c1", 1);
        closed("p0,10,20,30;2-3c1;0-1c1;1-2c1", 1);
        closed("p0,10,20,30;0-1c1;2-3c1", 0);
        closed("p0,10,20,30;0-2c1;1-3c1", 0);
        closed("p0,10,20,30;0-1c1;0-1c1", 0);
        closed("p0,10,20,30;0-1c1;0-2c1", 0);
        closed("p0,10,20,30;0-2c1;1-2c1", 0);
        closed("p0,10,20,30;0-3c1;1-2c1", 0);
        closed("p0,10,20,30;0-1c1;1-2;2-3c1", 0);
        closed("p0,10,20,30;0-1c1;1-2c2;2-3c1", 0);
        closed("p0,10,20,30;0-1c1;1-2c1;1-2c2", 1);
        closed("p0,10,20,30;0-1c1;1-3c1;2-3c1", 0);
    }

    /** "if it does not belong to it, and its ends are the beginning and the end of the span" */
    private static void overAChain() {
        over("p0,10,20,30;0-1c1;1-2c1;0-2", 2);
        over("p0,10,20,30;0-2;0-1c1;1-2c1;0-2", 0);
        over("p0,10,20,30;0-3;0-1c1;1-2c1;0-2;0-2", 3);
        over("p0,10,20,30;0-1c1;1-2c1;0-2c1", NONE);
        over("p0,10,20,30;0-1c1;1-2c1;0-2c1;0-2c2", 3);
        over("p0,10,20,30;0-1c1;1-2c1;0-3;1-2;0-1", NONE);
        over("p0,10,20,30;0-1c1;1-2c1", NONE);
        over("p0,10,20,30;1-2c1;0-3", NONE);
        over("p0,10,20,30;1-2c1;0-2;1-3;1-2", 3);
        over("p0,10,20,30;0-1c1;2-3c1;0-3c5", 2);
        over("p0,10,20,30;0-1c1", NONE);
    }

    private static void over(String text, int over) {
        due(text + ": over", Checks.drawn(text).chain(1, 7), over);
    }

    private static void wrongChains() {
        for (DimensionLines x : new DimensionLines[] {new DimensionLines(), Checks.full()}) {
            for (int wrong : new int[] {LEAST, -1, 0, 6, 256 + 1, GREATEST}) {
                due("chain " + wrong, x.chain(wrong, 0), BAD);
            }
            for (int wrong : new int[] {LEAST, -1, 9, 256 + 1, GREATEST}) {
                due("chain 1, " + wrong, x.chain(1, wrong), BAD);
                due("chain 5, " + wrong, x.chain(5, wrong), BAD);
                due("chain 4, " + wrong, x.chain(4, wrong), BAD);
            }
        }
    }
}
