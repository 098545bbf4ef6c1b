import java.util.List;
import java.util.function.ToIntFunction;

/** "Changes and errors", promise 25, and the 512 calls: none, 8 and a ninth remembered state. */
public final class HistoryTest {
    private static final Checks CHECKS = new Checks("HistoryTest");
    private static final int STATE = DimensionLines.STATE;

    /** Each kind of change, as it can be done with the drawing of {@link #beforeChanges()}. */
    private static final List<ToIntFunction<DimensionLines>> CHANGES = List.of(
            DimensionLines::load, x -> x.addPoint(15), x -> x.movePoint(0, 200), x -> x.dropPoint(3),
            x -> x.add(0, 2), x -> x.drop(0), x -> x.setTolerance(0, 20, 19), x -> x.setChain(0, 3),
            x -> x.setLeast(0, 9), x -> x.setLetter(8), x -> x.setArrow(8));

    /** Each kind of change that can leave everything as it was. */
    private static final List<ToIntFunction<DimensionLines>> CHANGES_TO_THE_SAME = List.of(
            x -> x.movePoint(1, 20), x -> x.setTolerance(0, 2, 1), x -> x.setChain(0, 1), x -> x.setLeast(0, 0),
            x -> x.setLetter(4), x -> x.setArrow(3));

    public static void main(String[] args) {
        noneRemembered();
        upToEightRemembered();
        theNinthDropsTheOldest();
        manyAreDroppedOneByOne();
        eachKindOfChangeIsRecorded();
        eachKindOfChangeDropsTheOldest();
        changesToTheSameAreRecorded();
        undoIsNoChange();
        undoLeavesTextAndFaultKind();
        undoRestoresSettingsAndDimensions();
        undoOfASixteenthAndOfATwelfth();
        the512thCall();
        CHECKS.finish();
    }

    private static void due(String call, long got, long want) {
        CHECKS.due(call, got, want);
    }

    private static DimensionLines beforeChanges() {
        return Checks.drawn("p10,20,30,40,60;0-1+1-2c1;1-2;0-2-3");
    }

    /** "there are no remembered states"; "STATE if there is none" */
    private static void noneRemembered() {
        DimensionLines x = new DimensionLines();
        due("states of a new object", x.count(10), 0);
        due("undo of a new object", x.undo(), STATE);
        due("undo again", x.undo(), STATE);
        due("states then", x.count(10), 0);
        x.addPoint(5);
        due("undo of the only change", x.undo(), 0);
        due("points then", x.count(0), 0);
        due("undo behind it", x.undo(), STATE);
        due("undo behind it again", x.undo(), STATE);
        x.addPoint(6);
        due("a change behind refused ones", x.count(10), 1);
        due("its undo", x.undo(), 0);
    }

    private static void upToEightRemembered() {
        for (int changes = 1; changes <= 8; changes++) {
            DimensionLines x = new DimensionLines();
            for (int n = 1; n <= changes; n++) {
                x.addPoint(10 * n);
            }
            due("states behind " + changes, x.count(10), changes);
            for (int left = changes - 1; left >= 0; left--) {
                due(changes + " changes, undo", x.undo(), left);
                due(changes + " changes, points", x.count(0), left);
                due(changes + " changes, states", x.count(10), left);
            }
            due(changes + " changes, one undo more", x.undo(), STATE);
            due(changes + " changes, points at last", x.count(0), 0);
        }
    }

    /** "At most 8 recorded states are remembered: when one more is recorded, the oldest one is dropped" */
    private static void theNinthDropsTheOldest() {
        DimensionLines x = new DimensionLines();
        for (int n = 1; n <= 9; n++) {
            x.addPoint(10 * n);
        }
        due("states behind 9 changes", x.count(10), 8);
        for (int left = 7; left >= 0; left--) {
            due("9 changes, undo", x.undo(), left);
            due("9 changes, points", x.count(0), left + 1);
        }
        due("9 changes, the ninth undo", x.undo(), STATE);
        due("9 changes, points at last", x.count(0), 1);
        due("9 changes, the point at last", x.point(0, 0), 10);
    }

    private static void manyAreDroppedOneByOne() {
        DimensionLines x = Checks.withPoints(0, 300);
        for (int position = 1; position <= 40; position++) {
            x.movePoint(0, position);
            due("states", x.count(10), Math.min(8, position + 2));
        }
        due("undo of the 40th", x.undo(), 7);
        due("undo of the 39th", x.undo(), 6);
        x.movePoint(0, 100);
        x.movePoint(0, 101);
        x.movePoint(0, 102);
        due("two undone and three more", x.count(10), 8);
        int[] positions = {101, 100, 38, 37, 36, 35, 34, 33};
        for (int i = 0; i < 8; i++) {
            due("undo among many", x.undo(), 7 - i);
            due("position among many", x.point(0, 0), positions[i]);
        }
        due("undo behind many", x.undo(), STATE);
        due("position behind many", x.point(0, 0), 33);
    }

    private static void eachKindOfChangeIsRecorded() {
        for (int kind = 0; kind < CHANGES.size(); kind++) {
            DimensionLines x = beforeChanges();
            DimensionLines twin = beforeChanges();
            due("states before change " + kind, x.count(10), 1);
            CHECKS.holds("change " + kind + " succeeds", CHANGES.get(kind).applyAsInt(x) >= 0);
            due("states behind change " + kind, x.count(10), 2);
            due("undo of change " + kind, x.undo(), 1);
            CHECKS.sameWhole("undo of change " + kind, x, twin);
        }
    }

    private static void eachKindOfChangeDropsTheOldest() {
        for (int kind = 0; kind < CHANGES.size(); kind++) {
            DimensionLines x = beforeChanges();
            for (int letter = 3; letter <= 9; letter++) {
                x.setLetter(letter);
            }
            due("8 states before change " + kind, x.count(10), 8);
            long before = x.digest();
            CHANGES.get(kind).applyAsInt(x);
            due("8 states behind change " + kind, x.count(10), 8);
            due("undo of change " + kind + ", the ninth", x.undo(), 7);
            x.setArrow(3);
            due("restored by undo of change " + kind, x.digest(), before);
            for (int left = 7; left > 0; left--) {
                x.undo();
            }
            due("the last undo with change " + kind, x.undo(), 0);
            due("the drawing before load is dropped by " + kind, x.count(0), 5);
            due("no undo to it behind " + kind, x.undo(), STATE);
        }
    }

    /** "Changes are the successful calls of ..", whether or not anything is different behind them. */
    private static void changesToTheSameAreRecorded() {
        for (int kind = 0; kind < CHANGES_TO_THE_SAME.size(); kind++) {
            DimensionLines x = beforeChanges();
            DimensionLines twin = beforeChanges();
            CHANGES_TO_THE_SAME.get(kind).applyAsInt(x);
            due("states behind change to the same " + kind, x.count(10), 2);
            due("undo of change to the same " + kind, x.undo(), 1);
            CHECKS.sameWhole("undo of change to the same " + kind, x, twin);
        }
    }

    /** "undo restores the latest one and removes it" */
    private static void undoIsNoChange() {
        DimensionLines x = Checks.withPoints(10, 20, 30);
        due("undo", x.undo(), 2);
        due("undo goes on backwards", x.undo(), 1);
        due("points behind two", x.count(0), 1);
        x.addPoint(40);
        due("states behind a new change", x.count(10), 2);
        due("undo of it", x.undo(), 1);
        due("undo of the first one", x.undo(), 0);
        due("no points", x.count(0), 0);
    }

    /** "(What faultKind() returns stays.)" */
    private static void undoLeavesTextAndFaultKind() {
        DimensionLines x = Checks.drawn("p0,9");
        x.type(';');
        x.load();
        due("faultKind 1", x.faultKind(), 1);
        due("undo", x.undo(), 0);
        due("faultKind stays 1", x.faultKind(), 1);
        due("characters stay", x.count(9), 5);
        x.addPoint(3);
        Checks.typeText(x, "p0,0");
        x.load();
        x.undo();
        due("faultKind stays 2", x.faultKind(), 2);
        Checks.typeText(x, "p0,1");
        x.load();
        x.undo();
        due("faultKind stays 0", x.faultKind(), 0);
        due("the text stays", x.load(), 0);
        due("the drawing of the text", x.point(1, 0), 1);
    }

    private static void undoRestoresSettingsAndDimensions() {
        DimensionLines x = Checks.drawn("p10,20,50;0-1+1-2c3;1-2+20-20c5");
        x.setLeast(0, 9);
        x.setLetter(9);
        x.setArrow(1);
        Checks.typeText(x, "p7");
        due("another drawing", x.load(), 0);
        x.setLetter(2);
        x.setArrow(6);
        due("undo of the arrow", x.undo(), 6);
        due("letter then", x.count(7), 2);
        due("arrow then", x.count(8), 1);
        due("undo of the letter", x.undo(), 5);
        due("letter before", x.count(7), 9);
        due("undo of the drawing", x.undo(), 4);
        int[][] rows = {{0, 1, 10, 2, 1, 3, 9}, {1, 2, 30, 20, 20, 5, 0}};
        for (int d = 0; d < 2; d++) {
            DimensionLines restored = x;
            int number = d;
            CHECKS.dues("restored " + d, what -> restored.dimension(number, what), rows[d]);
        }
        due("undo of the arrow before", x.undo(), 3);
        due("arrow at first", x.count(8), 3);
        due("undo of the letter before", x.undo(), 2);
        due("letter at first", x.count(7), 4);
        due("undo of the least lane", x.undo(), 1);
        due("least lane at first", x.dimension(0, 6), 0);
    }

    private static void undoOfASixteenthAndOfATwelfth() {
        DimensionLines x = Checks.full();
        x.drop(15);
        due("15 dimensions", x.count(1), 15);
        x.undo();
        due("16 again", x.count(1), 16);
        due("FULL again", x.add(0, 1), DimensionLines.FULL);
        due("the 16th goes from", x.dimension(15, 0), 3);
        due("the 16th has the least lane", x.dimension(15, 6), 9);
        x = Checks.withPoints(0, 1, 2, 3, 4, 5, 6, 7, 8, 9, 10, 300);
        x.dropPoint(11);
        x.undo();
        due("12 points again", x.addPoint(200), DimensionLines.FULL);
        due("the 12th", x.point(11, 0), 300);
    }

    /** "An object is used for at most 512 calls": the last of them is answered as the first one. */
    private static void the512thCall() {
        DimensionLines x = Checks.withPoints(0, 40, 100);
        x.setTolerance(x.add(0, 2), 1, 2);
        for (int call = 6; call <= 510; call++) {
            int before = call == 6 ? 102 : 100 * ((call - 1) % 21) + (call - 1) % 20;
            due("call " + call, x.setTolerance(0, call % 21, call % 20), before);
        }
        due("call 511", x.setTolerance(0, 5, 6), 100 * (510 % 21) + 510 % 20);
        due("call 512", x.distance(2, 0, false), -106);
        x = Checks.withPoints(0, 40, 100);
        long digest = x.digest();
        for (int call = 5; call <= 511; call++) {
            due("digest, call " + call, x.digest(), digest);
        }
        due("call 512, undo", x.undo(), 2);
    }
}
