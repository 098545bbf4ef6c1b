/** "Points and dimensions", promises 1 and 6 to 15: none, one, 12 points, 16 dimensions, each range. */
public final class PointsBoundsTest {
    private static final Checks CHECKS = new Checks("PointsBoundsTest");
    private static final int BAD = DimensionLines.BAD;
    private static final int STATE = DimensionLines.STATE;
    private static final int FULL = DimensionLines.FULL;
    private static final int LEAST = Integer.MIN_VALUE;
    private static final int GREATEST = Integer.MAX_VALUE;

    public static void main(String[] args) {
        aNewObject();
        positionsFrom0To300();
        noTwoPointsAtOnePosition();
        atMostTwelvePoints();
        numbersAscendWithPositions();
        addedPointsLeaveEndsOfDimensions();
        movedPointsLeaveEndsOfDimensions();
        moveToTheOwnPosition();
        moveNextToAnotherPoint();
        moveWithTwelvePoints();
        exchangedEnds();
        droppedPoints();
        droppedPointsOfAFullDrawing();
        endsOfAddedDimensions();
        atMostSixteenDimensions();
        smallestAndGreatestValue();
        droppedDimensions();
        nothingIsLeftOfDroppedDimensions();
        tolerancesFrom0To20();
        chainsFrom0To5();
        leastLanesFrom0To9();
        settingsFrom1To9();
        CHECKS.finish();
    }

    private static void due(String call, long got, long want) {
        CHECKS.due(call, got, want);
    }

    private static void positions(String call, DimensionLines x, int... positions) {
        due(call + ": points", x.count(0), positions.length);
        CHECKS.dues(call + ": position", p -> x.point(p, 0), positions);
        due(call + ": no point behind the last one", x.point(positions.length, 0), BAD);
    }

    private static void ends(String call, DimensionLines x, int dimension, int first, int second) {
        CHECKS.dues(call + ": end of " + dimension, what -> x.dimension(dimension, what), first, second);
    }

    /** "Creates a drawing without points, with an empty text buffer; there are no remembered states." */
    private static void aNewObject() {
        DimensionLines x = new DimensionLines();
        CHECKS.dues("new: count", x::count, 0, 0, 0, 0, 0, 0, 0, 4, 3, 0, 0);
        due("new: point", x.point(0, 0), BAD);
        due("new: dimension", x.dimension(0, 0), BAD);
        due("new: movePoint", x.movePoint(0, 5), BAD);
        due("new: dropPoint", x.dropPoint(0), BAD);
        due("new: add", x.add(0, 1), BAD);
        due("new: drop", x.drop(0), BAD);
        due("new: setTolerance", x.setTolerance(0, 0, 0), BAD);
        due("new: setChain", x.setChain(0, 0), BAD);
        due("new: setLeast", x.setLeast(0, 0), BAD);
        due("new: at", x.at(0, 0), DimensionLines.NONE);
        due("new: distance", x.distance(0, 1, true), BAD);
        due("new: needed", x.needed(), 0);
        due("new: ifArrow", x.ifArrow(1), 0);
        due("new: faultKind", x.faultKind(), 0);
        due("new: undo", x.undo(), STATE);
        due("new: clearText", x.clearText(), 0);
    }

    private static void positionsFrom0To300() {
        for (int wrong : new int[] {LEAST, -300, -2, -1, 301, 302, 1000, 65536 + 7, GREATEST}) {
            DimensionLines x = Checks.withPoints(150);
            due("addPoint " + wrong, x.addPoint(wrong), BAD);
            due("movePoint to " + wrong, x.movePoint(0, wrong), BAD);
            positions("behind " + wrong, x, 150);
        }
        for (int right : new int[] {0, 1, 149, 151, 299, 300}) {
            DimensionLines x = Checks.withPoints(150);
            due("addPoint " + right, x.addPoint(right), right < 150 ? 0 : 1);
            x = Checks.withPoints(150);
            due("movePoint to " + right, x.movePoint(0, right), 0);
            positions("movePoint to " + right, x, right);
        }
    }

    /** "STATE if there is a point with it"; "STATE if there is another point with this position" */
    private static void noTwoPointsAtOnePosition() {
        DimensionLines x = Checks.withPoints(0, 10, 11, 300);
        for (int taken : new int[] {0, 10, 11, 300}) {
            due("addPoint at a point " + taken, x.addPoint(taken), STATE);
            for (int p = 0; p < 4; p++) {
                if (x.point(p, 0) != taken) {
                    due("movePoint " + p + " to a point " + taken, x.movePoint(p, taken), STATE);
                }
            }
        }
        positions("refused", x, 0, 10, 11, 300);
        due("addPoint just above a point", x.addPoint(12), 3);
        due("addPoint just below a point", x.addPoint(9), 1);
        x.movePoint(1, 8);
        due("addPoint where a point was", x.addPoint(9), 2);
        x.dropPoint(2);
        due("addPoint where a dropped point was", x.addPoint(9), 2);
        due("addPoint where it is again", x.addPoint(9), STATE);
    }

    private static void atMostTwelvePoints() {
        DimensionLines x = new DimensionLines();
        for (int n = 0; n < 12; n++) {
            due("points before the next", x.count(0), n);
            due("addPoint with " + n + " points", x.addPoint(300 - n), 0);
        }
        due("addPoint with 12 points, below", x.addPoint(0), FULL);
        due("addPoint with 12 points, above", x.addPoint(288), FULL);
        due("points", x.count(0), 12);
        due("the 12th point", x.point(11, 0), 300);
        due("no 13th point", x.point(12, 0), BAD);
        due("dropPoint of the 12th", x.dropPoint(11), 11);
        due("addPoint with 11 points again", x.addPoint(300), 11);
        due("addPoint with 12 points again", x.addPoint(0), FULL);
        due("undo", x.undo(), 7);
        due("addPoint with 11 points behind undo", x.addPoint(0), 0);
        due("addPoint with 12 points behind undo", x.addPoint(1), FULL);
    }

    /** "numbered from 0 by ascending positions" */
    private static void numbersAscendWithPositions() {
        DimensionLines x = new DimensionLines();
        int[] added = {150, 300, 0, 75, 225, 1, 299, 149, 151, 2, 298, 100};
        int[] numbers = {0, 1, 0, 1, 3, 1, 5, 3, 5, 2, 8, 4};
        for (int i = 0; i < 12; i++) {
            due("addPoint " + added[i], x.addPoint(added[i]), numbers[i]);
        }
        positions("12 added", x, 0, 1, 2, 75, 100, 149, 150, 151, 225, 298, 299, 300);
    }

    /** "When a point is added or moved, the numbers of points change, so that dimensions keep their ends." */
    private static void addedPointsLeaveEndsOfDimensions() {
        int[][] due = {{1, 2, 2, 3}, {0, 2, 2, 3}, {0, 1, 1, 3}, {0, 1, 1, 2}};
        int[] added = {5, 15, 25, 35};
        for (int i = 0; i < 4; i++) {
            DimensionLines x = Checks.drawn("p10,20,30;0-1+1-2c3;1-2");
            x.setLeast(0, 4);
            due("addPoint", x.addPoint(added[i]), i);
            ends("added " + i, x, 0, due[i][0], due[i][1]);
            ends("added " + i, x, 1, due[i][2], due[i][3]);
            CHECKS.dues("added, property 2 +", k -> x.dimension(0, 2 + k), 10, 2, 1, 3, 4);
        }
        DimensionLines x = Checks.drawn(Checks.TWELVE_POINTS.replace("p0,", "p1,").replace(",1,", ",") + ";0-9;8-9");
        due("11 points", x.count(0), 11);
        due("addPoint before all", x.addPoint(0), 0);
        ends("added before all", x, 0, 1, 10);
        ends("added before all", x, 1, 9, 10);
    }

    private static void movedPointsLeaveEndsOfDimensions() {
        DimensionLines x = Checks.drawn("p10,20,30,40;0-3;1-2;0-1;2-3");
        due("movePoint 0 behind 1", x.movePoint(0, 25), 1);
        positions("0 behind 1", x, 20, 25, 30, 40);
        ends("0 behind 1", x, 0, 1, 3);
        ends("0 behind 1", x, 1, 0, 2);
        ends("0 behind 1", x, 2, 0, 1);
        ends("0 behind 1", x, 3, 2, 3);
        due("movePoint 3 before 2", x.movePoint(3, 29), 2);
        positions("3 before 2", x, 20, 25, 29, 30);
        ends("3 before 2", x, 0, 1, 2);
        ends("3 before 2", x, 1, 0, 3);
        ends("3 before 2", x, 2, 0, 1);
        ends("3 before 2", x, 3, 2, 3);
        due("movePoint 2 to the first place", x.movePoint(2, 0), 0);
        positions("2 to the first place", x, 0, 20, 25, 30);
        ends("2 to the first place", x, 0, 0, 2);
        ends("2 to the first place", x, 1, 1, 3);
        ends("2 to the first place", x, 2, 1, 2);
        ends("2 to the first place", x, 3, 0, 3);
        due("movePoint 0 to the last place", x.movePoint(0, 300), 3);
        positions("0 to the last place", x, 20, 25, 30, 300);
        ends("0 to the last place", x, 0, 1, 3);
        ends("0 to the last place", x, 1, 0, 2);
        ends("0 to the last place", x, 2, 0, 1);
        ends("0 to the last place", x, 3, 2, 3);
    }

    /** "another point": the moved one itself may have the position. */
    private static void moveToTheOwnPosition() {
        DimensionLines x = Checks.drawn("p0,20,300;0-1+3-4;1-2");
        due("movePoint 0 to 0", x.movePoint(0, 0), 0);
        due("movePoint 1 to 20", x.movePoint(1, 20), 1);
        due("movePoint 2 to 300", x.movePoint(2, 300), 2);
        positions("to the own positions", x, 0, 20, 300);
        ends("to the own positions", x, 0, 0, 1);
        ends("to the own positions", x, 1, 1, 2);
        due("each is a change", x.count(10), 4);
    }

    private static void moveNextToAnotherPoint() {
        DimensionLines x = Checks.withPoints(10, 20, 30);
        due("movePoint to just below the next", x.movePoint(0, 19), 0);
        due("movePoint to just above the next", x.movePoint(0, 21), 1);
        positions("just above", x, 20, 21, 30);
        due("movePoint to just below the last", x.movePoint(0, 29), 1);
        due("movePoint to just above the last", x.movePoint(0, 31), 2);
        positions("just above the last", x, 29, 30, 31);
        due("movePoint to just below the first", x.movePoint(2, 28), 0);
        positions("just below the first", x, 28, 29, 30);
    }

    private static void moveWithTwelvePoints() {
        DimensionLines x = Checks.full();
        due("movePoint 0 to the last place", x.movePoint(0, 299), 10);
        positions("12 points", x, 20, 45, 70, 100, 120, 150, 170, 200, 230, 260, 299, 300);
        ends("12 points", x, 0, 0, 10);
        ends("12 points", x, 1, 0, 1);
        ends("12 points", x, 10, 9, 11);
        ends("12 points", x, 11, 1, 10);
        ends("12 points", x, 13, 10, 11);
        due("movePoint 11 to the first place", x.movePoint(11, 0), 0);
        positions("12 points again", x, 0, 20, 45, 70, 100, 120, 150, 170, 200, 230, 260, 299);
        ends("12 points again", x, 10, 0, 10);
        ends("12 points again", x, 13, 0, 11);
        ends("12 points again", x, 15, 3, 10);
        due("movePoint 12", x.movePoint(12, 5), BAD);
        due("movePoint 11", x.movePoint(11, 300), 11);
    }

    /** "dimensions whose first end would be behind their second end then have their ends exchanged" */
    private static void exchangedEnds() {
        DimensionLines x = Checks.drawn("p10,20,30;0-1+1-2c3;0-1+4-5;1-2+6-7c5;0-2");
        x.setLeast(0, 8);
        due("movePoint 0 between", x.movePoint(0, 21), 1);
        ends("between", x, 0, 0, 1);
        ends("between", x, 1, 0, 1);
        ends("between", x, 2, 0, 2);
        ends("between", x, 3, 1, 2);
        CHECKS.dues("exchanged, property 2 +", k -> x.dimension(0, 2 + k), 1, 2, 1, 3, 8);
        CHECKS.dues("the other one, property 2 +", k -> x.dimension(1, 2 + k), 1, 5, 4, 0, 0);
        CHECKS.dues("not exchanged, property 2 +", k -> x.dimension(2, 2 + k), 10, 7, 6, 5, 0);
        due("least distance of exchanged ends", x.distance(0, 1, false), -1);
        due("greatest distance of exchanged ends", x.distance(0, 1, true), 2);
        due("exchanged back", x.movePoint(0, 22), 1);
        ends("exchanged back", x, 0, 0, 1);
    }

    /** "BAD if there is no such point; STATE if it is an end of a dimension" */
    private static void droppedPoints() {
        DimensionLines x = Checks.drawn("p10,20,30,40,50;1-3;1-3");
        for (int wrong : new int[] {LEAST, -1, 5, 12, GREATEST}) {
            due("dropPoint " + wrong, x.dropPoint(wrong), BAD);
        }
        due("dropPoint of a first end", x.dropPoint(1), STATE);
        due("dropPoint of a second end", x.dropPoint(3), STATE);
        due("dropPoint of the first point", x.dropPoint(0), 4);
        due("dropPoint of the last point", x.dropPoint(3), 3);
        due("dropPoint between ends", x.dropPoint(1), 2);
        positions("ends are left", x, 20, 40);
        ends("ends are left", x, 0, 0, 1);
        x.drop(1);
        due("dropPoint, an end of one still", x.dropPoint(0), STATE);
        x.drop(0);
        due("dropPoint, an end of none", x.dropPoint(0), 1);
        positions("the last one is left", x, 40);
        due("dropPoint of the only point", x.dropPoint(0), 0);
        due("dropPoint without points", x.dropPoint(0), BAD);
        due("addPoint behind that", x.addPoint(7), 0);
    }

    private static void droppedPointsOfAFullDrawing() {
        DimensionLines x = Checks.full();
        due("dropPoint of 12, an end", x.dropPoint(11), STATE);
        x.drop(13);
        due("dropPoint of 12, an end of one still", x.dropPoint(11), STATE);
        x.drop(10);
        due("dropPoint of 12", x.dropPoint(11), 11);
        due("no 12th point then", x.point(11, 0), BAD);
        x.drop(10);
        x.drop(0);
        due("dropPoint of the first one", x.dropPoint(0), 10);
        ends("behind the first one", x, 0, 0, 1);
        ends("behind the first one", x, 8, 8, 9);
        ends("behind the first one, the last dimension", x, x.count(1) - 1, 2, 9);
    }

    /** "b: another point (the one with the smaller position becomes the first end)" */
    private static void endsOfAddedDimensions() {
        DimensionLines x = Checks.withPoints(0, 1, 2, 3, 4, 5, 6, 7, 8, 9, 10, 300);
        due("add 0, 11", x.add(0, 11), 0);
        due("add 11, 0", x.add(11, 0), 1);
        due("add 10, 11", x.add(10, 11), 2);
        due("add 1, 0", x.add(1, 0), 3);
        ends("add 0, 11", x, 0, 0, 11);
        ends("add 11, 0", x, 1, 0, 11);
        ends("add 10, 11", x, 2, 10, 11);
        ends("add 1, 0", x, 3, 0, 1);
        for (int wrong : new int[] {LEAST, -1, 12, GREATEST}) {
            due("add from " + wrong, x.add(wrong, 5), BAD);
            due("add to " + wrong, x.add(5, wrong), BAD);
            due("add of twice " + wrong, x.add(wrong, wrong), BAD);
        }
        for (int p = 0; p < 12; p++) {
            due("add of one point " + p, x.add(p, p), BAD);
        }
        due("dimensions", x.count(1), 4);
        due("add with one point", Checks.withPoints(5).add(0, 0), BAD);
        due("add with one point to another", Checks.withPoints(5).add(0, 1), BAD);
        for (int what = 3; what <= 6; what++) {
            due("added without " + what, x.dimension(1, what), 0);
        }
    }

    /** "at most 16 dimensions, numbered from 0 in the order in which they were added" */
    private static void atMostSixteenDimensions() {
        DimensionLines x = Checks.withPoints(0, 100, 200);
        for (int d = 0; d < 16; d++) {
            due("dimensions before the next", x.count(1), d);
            due("add with " + d, x.add(0, 1 + d % 2), d);
        }
        due("add with 16", x.add(0, 1), FULL);
        due("add with 16, other ends", x.add(2, 1), FULL);
        due("dimensions", x.count(1), 16);
        for (int d = 0; d < 16; d++) {
            ends("of 16", x, d, 0, 1 + d % 2);
        }
        due("no 17th dimension", x.dimension(16, 0), BAD);
        due("drop of the 16th", x.drop(15), 15);
        due("add with 15 again", x.add(1, 2), 15);
        ends("the 16th again", x, 15, 1, 2);
        due("add with 16 again", x.add(1, 2), FULL);
        x.undo();
        due("add with 15 behind undo", x.add(0, 2), 15);
        due("add with 16 behind undo", x.add(0, 2), FULL);
    }

    private static void smallestAndGreatestValue() {
        DimensionLines x = Checks.withPoints(0, 1, 299, 300);
        x.add(0, 1);
        x.add(0, 3);
        x.add(3, 2);
        CHECKS.dues("value", d -> x.dimension(d, 2), 1, 300, 1);
        x.movePoint(1, 298);
        CHECKS.dues("value behind a move", d -> x.dimension(d, 2), 298, 300, 1);
    }

    /** "The numbers of the dimensions behind it become smaller by 1." */
    private static void droppedDimensions() {
        DimensionLines x = Checks.full();
        for (int wrong : new int[] {LEAST, -1, 16, GREATEST}) {
            due("drop " + wrong, x.drop(wrong), BAD);
        }
        due("drop of the first of 16", x.drop(0), 15);
        ends("the second one", x, 0, 1, 2);
        ends("the last one", x, 14, 3, 10);
        CHECKS.dues("the second one, property 3 +", k -> x.dimension(0, 3 + k), 1, 1, 1, 0);
        CHECKS.dues("the last one, property 3 +", k -> x.dimension(14, 3 + k), 3, 0, 0, 9);
        due("no 16th", x.dimension(15, 0), BAD);
        due("drop of the last of 15", x.drop(14), 14);
        ends("the one before it", x, 13, 8, 9);
        due("drop in the middle", x.drop(5), 13);
        ends("before the middle", x, 4, 5, 6);
        ends("behind the middle", x, 5, 7, 8);
        CHECKS.dues("behind the middle, property 3 +", k -> x.dimension(5, 3 + k), 3, 1, 0, 0);
        for (int left = 12; left >= 0; left--) {
            due("drop of the first", x.drop(0), left);
        }
        due("drop without dimensions", x.drop(0), BAD);
        due("add behind that", x.add(3, 4), 0);
        ends("added behind that", x, 0, 3, 4);
    }

    /** "Adds a dimension without tolerances and chain."; "(initially 0)" */
    private static void nothingIsLeftOfDroppedDimensions() {
        DimensionLines x = Checks.drawn("p0,10,20;0-1;0-1+3-4c5");
        x.setLeast(1, 9);
        x.drop(1);
        due("add in place of the last one", x.add(1, 2), 1);
        CHECKS.dues("in place of the last one, property 3 +", k -> x.dimension(1, 3 + k), 0, 0, 0, 0);
        x.setTolerance(0, 5, 6);
        x.setChain(0, 2);
        x.setLeast(0, 7);
        x.drop(1);
        x.drop(0);
        due("add in place of the only one", x.add(0, 2), 0);
        CHECKS.dues("in place of the only one, property 3 +", k -> x.dimension(0, 3 + k), 0, 0, 0, 0);
    }

    /** "minus: 0 to 20, plus: 0 to 20"; "Returns 100 * (minus before) + (plus before)" */
    private static void tolerancesFrom0To20() {
        DimensionLines x = Checks.full();
        due("setTolerance of 0", x.setTolerance(0, 20, 20), 0);
        due("setTolerance of 15", x.setTolerance(15, 0, 20), 300);
        due("before: 20, 20", x.setTolerance(0, 20, 0), 2020);
        due("before: 20, 0", x.setTolerance(0, 0, 1), 2000);
        due("before: 0, 1", x.setTolerance(0, 1, 0), 1);
        due("before: 1, 0", x.setTolerance(0, 0, 20), 100);
        due("before: 0, 20", x.setTolerance(0, 19, 1), 20);
        for (int wrong : new int[] {LEAST, -1, 21, 100, 256, GREATEST}) {
            due("setTolerance minus " + wrong, x.setTolerance(0, wrong, 5), BAD);
            due("setTolerance plus " + wrong, x.setTolerance(0, 5, wrong), BAD);
            due("setTolerance both " + wrong, x.setTolerance(0, wrong, wrong), BAD);
        }
        for (int wrong : new int[] {LEAST, -1, 16, GREATEST}) {
            due("setTolerance of " + wrong, x.setTolerance(wrong, 5, 5), BAD);
        }
        due("before: 19, 1", x.setTolerance(0, 0, 0), 1901);
        CHECKS.dues("minus of", d -> x.dimension(d, 3), 0, 1, 2, 3, 0, 1, 2, 3, 0, 1, 2, 3, 0, 1, 2, 0);
        CHECKS.dues("plus of", d -> x.dimension(d, 4), 0, 1, 2, 0, 1, 2, 0, 1, 2, 0, 1, 2, 0, 1, 2, 20);
    }

    /** "chain: 1 to 5, or 0 for none" */
    private static void chainsFrom0To5() {
        DimensionLines x = Checks.full();
        due("setChain of 15", x.setChain(15, 5), 0);
        due("setChain of 15 to 0", x.setChain(15, 0), 5);
        for (int chain = 0; chain <= 5; chain++) {
            due("setChain " + chain, x.setChain(0, chain), chain == 0 ? 1 : chain - 1);
            due("chain " + chain, x.dimension(0, 5), chain);
        }
        for (int wrong : new int[] {LEAST, -5, -1, 6, 256, GREATEST}) {
            due("setChain " + wrong, x.setChain(0, wrong), BAD);
        }
        for (int wrong : new int[] {LEAST, -1, 16, GREATEST}) {
            due("setChain of " + wrong, x.setChain(wrong, 1), BAD);
        }
        due("the chain stays", x.dimension(0, 5), 5);
    }

    /** "a least lane from 0 to 9 (initially 0)" */
    private static void leastLanesFrom0To9() {
        DimensionLines x = Checks.full();
        due("initially", x.dimension(0, 6), 0);
        due("setLeast of 15", x.setLeast(15, 0), 9);
        for (int lane = 0; lane <= 9; lane++) {
            due("setLeast " + lane, x.setLeast(0, lane), Math.max(0, lane - 1));
            due("least lane " + lane, x.dimension(0, 6), lane);
        }
        for (int wrong : new int[] {LEAST, -1, 10, 256, GREATEST}) {
            due("setLeast " + wrong, x.setLeast(0, wrong), BAD);
        }
        for (int wrong : new int[] {LEAST, -1, 16, GREATEST}) {
            due("setLeast of " + wrong, x.setLeast(wrong, 1), BAD);
        }
        due("the least lane stays", x.dimension(0, 6), 9);
    }

    /** "letter is a setting, 1 to 9 (initially 4)"; "arrow, 1 to 9 (initially 3)" */
    private static void settingsFrom1To9() {
        DimensionLines x = new DimensionLines();
        for (int size = 1; size <= 9; size++) {
            due("setLetter " + size, x.setLetter(size), size == 1 ? 4 : size - 1);
            due("setArrow " + size, x.setArrow(size), size == 1 ? 3 : size - 1);
            due("letter " + size, x.count(7), size);
            due("arrow " + size, x.count(8), size);
        }
        for (int wrong : new int[] {LEAST, -1, 0, 10, 256 + 4, GREATEST}) {
            due("setLetter " + wrong, x.setLetter(wrong), BAD);
            due("setArrow " + wrong, x.setArrow(wrong), BAD);
        }
        due("the letter stays", x.count(7), 9);
        due("the arrow stays", x.count(8), 9);
    }
}
