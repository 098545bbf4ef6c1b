/** Promises 6 to 15 and 25: what changes points, dimensions and settings, and undo. */
public final class EditTest {
    private static final Checks CHECKS = new Checks("EditTest");
    private static final int BAD = DimensionLines.BAD;
    private static final int STATE = DimensionLines.STATE;
    private static final int FULL = DimensionLines.FULL;

    public static void main(String[] args) {
        promise6AddPoint();
        promise7MovePoint();
        promise7ExchangesEnds();
        promise8DropPoint();
        promise9Add();
        promise10Drop();
        promise11SetTolerance();
        promise12SetChain();
        promise13SetLeast();
        promise14SetLetter();
        promise15SetArrow();
        promise25Undo();
        promise25EveryChangeIsRecorded();
        errorsChangeNothing();
        CHECKS.finish();
    }

    private static void due(String call, long got, long want) {
        CHECKS.due(call, got, want);
    }

    private static void ends(String call, DimensionLines x, int dimension, int first, int second) {
        due(call + ": first end of " + dimension, x.dimension(dimension, 0), first);
        due(call + ": second end of " + dimension, x.dimension(dimension, 1), second);
    }

    private static void positions(String call, DimensionLines x, int... positions) {
        due(call + ": points", x.count(0), positions.length);
        for (int p = 0; p < positions.length; p++) {
            due(call + ": position " + p, x.point(p, 0), positions[p]);
        }
    }

    private static void promise6AddPoint() {
        DimensionLines x = new DimensionLines();
        due("addPoint -1", x.addPoint(-1), BAD);
        due("addPoint 301", x.addPoint(301), BAD);
        due("addPoint 300", x.addPoint(300), 0);
        due("addPoint 0", x.addPoint(0), 0);
        due("addPoint 0 again", x.addPoint(0), STATE);
        due("addPoint 300 again", x.addPoint(300), STATE);
        x.add(0, 1);
        due("addPoint between", x.addPoint(100), 1);
        positions("addPoint", x, 0, 100, 300);
        ends("addPoint between", x, 0, 0, 2);
        for (int n = 3; n < 12; n++) {
            due("addPoint " + (100 + n), x.addPoint(100 + n), n - 1);
        }
        ends("addPoint till 12", x, 0, 0, 11);
        due("addPoint the 13th", x.addPoint(50), FULL);
        due("addPoint the 13th, position taken", x.addPoint(100), STATE);
        due("addPoint the 13th, out of range", x.addPoint(301), BAD);
        due("addPoint the 13th: points", x.count(0), 12);
    }

    private static void promise7MovePoint() {
        DimensionLines x = Checks.drawn("p10,20,30,40;0-3;1-2");
        due("movePoint -1", x.movePoint(-1, 5), BAD);
        due("movePoint 4", x.movePoint(4, 5), BAD);
        due("movePoint to -1", x.movePoint(0, -1), BAD);
        due("movePoint to 301", x.movePoint(0, 301), BAD);
        due("movePoint 4 to a taken place", x.movePoint(4, 10), BAD);
        due("movePoint to a taken place", x.movePoint(0, 20), STATE);
        due("movePoint to a taken place, down", x.movePoint(3, 10), STATE);
        positions("movePoint refused", x, 10, 20, 30, 40);
        due("movePoint to its own place", x.movePoint(1, 20), 1);
        due("movePoint to its own place is a change", x.count(10), 2);
        positions("movePoint to its own place", x, 10, 20, 30, 40);
        due("movePoint within its neighbours", x.movePoint(1, 29), 1);
        positions("movePoint within its neighbours", x, 10, 29, 30, 40);
        due("movePoint up", x.movePoint(1, 35), 2);
        positions("movePoint up", x, 10, 30, 35, 40);
        ends("movePoint up", x, 1, 1, 2);
        due("movePoint to 300", x.movePoint(0, 300), 3);
        positions("movePoint to 300", x, 30, 35, 40, 300);
        due("movePoint to 0", x.movePoint(2, 0), 0);
        positions("movePoint to 0", x, 0, 30, 35, 300);
        ends("movePoint to 0", x, 0, 0, 3);
        ends("movePoint to 0", x, 1, 1, 2);
    }

    private static void promise7ExchangesEnds() {
        DimensionLines x = Checks.drawn("p10,20,30,40;0-1+3-7c2;1-2+1;2-3;1-3");
        x.setLeast(0, 4);
        due("movePoint 1 above all", x.movePoint(1, 100), 3);
        ends("exchange", x, 0, 0, 3);
        ends("exchange", x, 1, 1, 3);
        ends("exchange", x, 2, 1, 2);
        ends("exchange", x, 3, 2, 3);
        due("exchange: value", x.dimension(1, 2), 70);
        due("exchange: value of another", x.dimension(3, 2), 60);
        int[] kept = {7, 3, 2, 4};
        for (int what = 3; what <= 6; what++) {
            due("exchange keeps " + what, x.dimension(0, what), kept[what - 3]);
        }
        due("exchange keeps plus", x.dimension(1, 4), 1);
        due("movePoint back", x.movePoint(3, 5), 0);
        ends("back", x, 0, 0, 1);
        ends("back", x, 1, 0, 2);
        ends("back", x, 2, 2, 3);
        ends("back", x, 3, 0, 3);
    }

    private static void promise8DropPoint() {
        DimensionLines x = Checks.drawn("p10,20,30,40,50;1-3;3-4");
        due("dropPoint -1", x.dropPoint(-1), BAD);
        due("dropPoint 5", x.dropPoint(5), BAD);
        due("dropPoint of a first end", x.dropPoint(1), STATE);
        due("dropPoint of a second end", x.dropPoint(4), STATE);
        due("dropPoint refused", x.count(0), 5);
        due("dropPoint 2", x.dropPoint(2), 4);
        positions("dropPoint 2", x, 10, 20, 40, 50);
        ends("dropPoint 2", x, 0, 1, 2);
        ends("dropPoint 2", x, 1, 2, 3);
        due("dropPoint 0", x.dropPoint(0), 3);
        ends("dropPoint 0", x, 0, 0, 1);
        x.drop(0);
        x.drop(0);
        due("dropPoint last", x.dropPoint(2), 2);
        due("dropPoint", x.dropPoint(0), 1);
        due("dropPoint the only one", x.dropPoint(0), 0);
        due("dropPoint without points", x.dropPoint(0), BAD);
    }

    private static void promise9Add() {
        DimensionLines x = Checks.drawn("p10,20,30");
        due("add without such a first point", x.add(-1, 0), BAD);
        due("add without such a second point", x.add(0, 3), BAD);
        due("add of one point", x.add(1, 1), BAD);
        due("add refused", x.count(1), 0);
        due("add", x.add(0, 2), 0);
        due("add backwards", x.add(2, 0), 1);
        ends("add", x, 0, 0, 2);
        ends("add backwards", x, 1, 0, 2);
        x.setTolerance(1, 3, 4);
        x.setChain(1, 2);
        x.setLeast(1, 7);
        x.drop(1);
        due("add behind a dropped one", x.add(0, 1), 1);
        for (int what = 3; what <= 6; what++) {
            due("add: initially without " + what, x.dimension(1, what), 0);
        }
        for (int n = 2; n < 16; n++) {
            due("add the " + n + "th", x.add(0, 1), n);
        }
        due("add the 17th", x.add(0, 1), FULL);
        due("add the 17th of one point", x.add(1, 1), BAD);
        due("add the 17th: dimensions", x.count(1), 16);
    }

    private static void promise10Drop() {
        DimensionLines x = Checks.drawn("p10,20,30,40;0-1+1-2c1;1-2+3-4c2;2-3+5-6c3");
        x.setLeast(1, 8);
        x.setLeast(2, 9);
        due("drop -1", x.drop(-1), BAD);
        due("drop 3", x.drop(3), BAD);
        due("drop 0", x.drop(0), 2);
        int[][] rows = {{1, 2, 10, 4, 3, 2, 8}, {2, 3, 10, 6, 5, 3, 9}};
        for (int d = 0; d < 2; d++) {
            for (int what = 0; what <= 6; what++) {
                due("behind drop: " + d + ", " + what, x.dimension(d, what), rows[d][what]);
            }
        }
        due("drop: points stay", x.count(0), 4);
        due("drop the last one", x.drop(1), 1);
        due("drop: the other one stays", x.dimension(0, 6), 8);
        due("drop the only one", x.drop(0), 0);
        due("drop without dimensions", x.drop(0), BAD);
    }

    private static void promise11SetTolerance() {
        DimensionLines x = Checks.drawn("p10,20,30;0-1;1-2");
        due("setTolerance", x.setTolerance(1, 7, 9), 0);
        due("setTolerance: minus", x.dimension(1, 3), 7);
        due("setTolerance: plus", x.dimension(1, 4), 9);
        due("setTolerance: of another", x.dimension(0, 3), 0);
        due("setTolerance at the bounds", x.setTolerance(1, 20, 0), 709);
        due("setTolerance at the other bounds", x.setTolerance(1, 0, 20), 2000);
        due("setTolerance back", x.setTolerance(1, 0, 0), 20);
        due("setTolerance of -1", x.setTolerance(-1, 0, 0), BAD);
        due("setTolerance of 2", x.setTolerance(2, 0, 0), BAD);
        due("setTolerance minus -1", x.setTolerance(0, -1, 0), BAD);
        due("setTolerance minus 21", x.setTolerance(0, 21, 0), BAD);
        due("setTolerance plus -1", x.setTolerance(0, 0, -1), BAD);
        due("setTolerance plus 21", x.setTolerance(0, 5, 21), BAD);
        due("setTolerance refused", x.dimension(0, 3), 0);
        due("setTolerance refused: states", x.count(10), 5);
    }

    private static void promise12SetChain() {
        DimensionLines x = Checks.drawn("p10,20;0-1");
        due("setChain 5", x.setChain(0, 5), 0);
        due("setChain 1", x.setChain(0, 1), 5);
        due("setChain: the chain", x.dimension(0, 5), 1);
        due("setChain 0", x.setChain(0, 0), 1);
        due("setChain 6", x.setChain(0, 6), BAD);
        due("setChain -1", x.setChain(0, -1), BAD);
        due("setChain of 1", x.setChain(1, 1), BAD);
        due("setChain of -1", x.setChain(-1, 1), BAD);
        due("setChain refused", x.dimension(0, 5), 0);
        due("setChain: states", x.count(10), 4);
    }

    private static void promise13SetLeast() {
        DimensionLines x = Checks.drawn("p10,20;0-1");
        due("setLeast 9", x.setLeast(0, 9), 0);
        due("setLeast: the least lane", x.dimension(0, 6), 9);
        due("setLeast: the lane", x.dimension(0, 10), 9);
        due("setLeast 0", x.setLeast(0, 0), 9);
        due("setLeast 10", x.setLeast(0, 10), BAD);
        due("setLeast -1", x.setLeast(0, -1), BAD);
        due("setLeast of 1", x.setLeast(1, 1), BAD);
        due("setLeast of -1", x.setLeast(-1, 1), BAD);
        due("setLeast refused", x.dimension(0, 10), 0);
        due("setLeast: states", x.count(10), 3);
    }

    private static void promise14SetLetter() {
        DimensionLines x = Checks.drawn("p10,20;0-1");
        due("setLetter 1", x.setLetter(1), 4);
        due("setLetter 9", x.setLetter(9), 1);
        due("setLetter: the width", x.count(7), 9);
        due("setLetter: the form", x.dimension(0, 7), 2);
        due("setLetter 0", x.setLetter(0), BAD);
        due("setLetter 10", x.setLetter(10), BAD);
        due("setLetter refused", x.count(7), 9);
        due("setLetter: the arrow stays", x.count(8), 3);
        due("setLetter: states", x.count(10), 3);
    }

    private static void promise15SetArrow() {
        DimensionLines x = Checks.drawn("p10,20;0-1");
        due("setArrow 9", x.setArrow(9), 3);
        due("setArrow: the extent", x.dimension(0, 8), 1);
        due("setArrow 1", x.setArrow(1), 9);
        due("setArrow: the length", x.count(8), 1);
        due("setArrow: the form", x.dimension(0, 7), 0);
        due("setArrow 0", x.setArrow(0), BAD);
        due("setArrow 10", x.setArrow(10), BAD);
        due("setArrow refused", x.count(8), 1);
        due("setArrow: the letter stays", x.count(7), 4);
        due("setArrow: states", x.count(10), 3);
    }

    private static void promise25Undo() {
        DimensionLines x = new DimensionLines();
        due("undo without a state", x.undo(), STATE);
        for (int n = 1; n <= 9; n++) {
            x.addPoint(10 * n);
            due("states behind change " + n, x.count(10), Math.min(n, 8));
        }
        for (int left = 7; left >= 0; left--) {
            due("undo", x.undo(), left);
            due("undo: points", x.count(0), left + 1);
        }
        due("undo of the oldest one, dropped", x.undo(), STATE);
        positions("undo", x, 10);
        x.addPoint(5);
        x.addPoint(7);
        due("undo behind new changes", x.undo(), 1);
        positions("undo behind new changes", x, 5, 10);
        x.type('p');
        x.undo();
        due("undo leaves the text", x.count(9), 1);
        positions("undo to the first one", x, 10);
    }

    private static void promise25EveryChangeIsRecorded() {
        for (int kind = 0; kind < 11; kind++) {
            DimensionLines x = Checks.drawn("p10,20,30,40,60;0-1+1-2c1;1-2;0-2-3");
            x.setLeast(1, 2);
            long before = shape(x);
            change(x, kind);
            due("states behind change " + kind, x.count(10), 3);
            CHECKS.holds("change " + kind + " changes the state", shape(x) != before);
            due("undo of change " + kind, x.undo(), 2);
            due("state behind undo of change " + kind, shape(x), before);
        }
        DimensionLines x = Checks.drawn("p10,20,30,40,60;0-1+1-2c1;1-2;0-2-3");
        long[] shapes = new long[7];
        for (int kind = 0; kind < 7; kind++) {
            DimensionLines twin = Checks.drawn("p10,20,30,40,60;0-1+1-2c1;1-2;0-2-3");
            for (int before = 0; before < kind; before++) {
                change(twin, before);
            }
            shapes[kind] = shape(twin);
            change(x, kind);
        }
        for (int kind = 6; kind >= 0; kind--) {
            x.undo();
            due("state before change " + kind, shape(x), shapes[kind]);
        }
    }

    /** A hash of what a state holds: points, dimensions and settings. */
    private static long shape(DimensionLines x) {
        long h = 31 * x.count(7) + x.count(8);
        for (int p = 0; p < x.count(0); p++) {
            h = 31 * h + x.point(p, 0);
        }
        for (int d = 0; d < x.count(1); d++) {
            for (int what = 0; what <= 10; what++) {
                h = 31 * h + x.dimension(d, what);
            }
        }
        return h;
    }

    private static void change(DimensionLines x, int kind) {
        int answer = BAD;
        switch (kind) {
            case 0: answer = x.addPoint(15); break;
            case 1: answer = x.movePoint(0, 200); break;
            case 2: answer = x.dropPoint(3); break;
            case 3: answer = x.add(0, 2); break;
            case 4: answer = x.drop(0); break;
            case 5: answer = x.setTolerance(0, 20, 19); break;
            case 6: answer = x.setChain(0, 3); break;
            case 7: answer = x.setLeast(0, 9); break;
            case 8: answer = x.setLetter(8); break;
            case 9: answer = x.setArrow(8); break;
            default: answer = x.load(); break;
        }
        CHECKS.holds("change " + kind + " succeeds", answer >= 0);
    }

    private static void errorsChangeNothing() {
        DimensionLines x = Checks.drawn("p0,1,2,3,4,5,6,7,8,9,10,11" + ";0-1;1-2;2-3+1".repeat(3) + ";3-4");
        for (int n = 10; n < 16; n++) {
            x.add(4, n - 4);
        }
        x.undo();
        x.add(7, 9);
        long before = x.digest();
        int[] answers = {x.addPoint(-1), x.addPoint(11), x.addPoint(12), x.movePoint(0, 11), x.movePoint(12, 50),
            x.dropPoint(0), x.dropPoint(12), x.add(0, 1), x.add(0, 0), x.drop(16), x.drop(-1),
            x.setTolerance(0, 21, 1), x.setTolerance(0, 1, 21), x.setChain(0, 6), x.setLeast(0, 10),
            x.setLetter(0), x.setArrow(10), x.ifArrow(0), x.type(200), x.point(0, 5), x.dimension(0, 13),
            x.count(11), x.at(-1, 0), x.distance(0, 0, true), x.ifExact(0, 1, 1), x.critical(3, 3), x.chain(6, 0)};
        int[] dues = {BAD, STATE, FULL, STATE, BAD, STATE, BAD, FULL, BAD, BAD, BAD, BAD, BAD, BAD, BAD,
            BAD, BAD, BAD, BAD, BAD, BAD, BAD, BAD, BAD, BAD, BAD, BAD};
        for (int i = 0; i < dues.length; i++) {
            due("refused call " + i, answers[i], dues[i]);
        }
        due("refused calls change nothing", x.digest(), before);
        due("undo behind refused calls", x.undo(), 6);
    }
}
