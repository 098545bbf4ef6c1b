import java.util.ArrayList;
import java.util.List;
import java.util.function.Supplier;
import java.util.function.ToLongFunction;

/**
 * "Changes and errors": which code is returned where several apply, and that refused calls and
 * questions change nothing. Each call is made on one of two objects that are built in the same
 * way; then all that can be seen of both is compared.
 */
public final class RefusedTest {
    private static final Checks CHECKS = new Checks("RefusedTest");
    private static final int BAD = DimensionLines.BAD;
    private static final int STATE = DimensionLines.STATE;
    private static final int FULL = DimensionLines.FULL;
    private static final int NONE = DimensionLines.NONE;
    private static final int LEAST = Integer.MIN_VALUE;
    private static final int GREATEST = Integer.MAX_VALUE;

    private record Call(String name, ToLongFunction<DimensionLines> made, long due) {
    }

    public static void main(String[] args) {
        theFirstCodeOfSeveral();
        noneOnlyWithoutAnErrorCode();
        refusedCallsChangeNothing();
        refusedCallsOfAnEmptyDrawingChangeNothing();
        refusedCallsRecordNothing();
        aFaultChangesNothingButFaultKind();
        questionsChangeNothing();
        CHECKS.finish();
    }

    private static void due(String call, long got, long want) {
        CHECKS.due(call, got, want);
    }

    /** "If several of them apply to a call, the first one in this order is returned." */
    private static void theFirstCodeOfSeveral() {
        DimensionLines x = Checks.full();
        due("type, BAD before FULL, below", x.type(31), BAD);
        due("type, BAD before FULL, above", x.type(127), BAD);
        due("type, FULL", x.type(32), FULL);
        due("addPoint, BAD before FULL, below", x.addPoint(-1), BAD);
        due("addPoint, BAD before FULL, above", x.addPoint(301), BAD);
        due("addPoint, STATE before FULL, first point", x.addPoint(0), STATE);
        due("addPoint, STATE before FULL, a point", x.addPoint(45), STATE);
        due("addPoint, STATE before FULL, last point", x.addPoint(300), STATE);
        due("addPoint, FULL", x.addPoint(1), FULL);
        due("add, BAD before FULL, same points", x.add(3, 3), BAD);
        due("add, BAD before FULL, no first point", x.add(-1, 3), BAD);
        due("add, BAD before FULL, no second point", x.add(3, 12), BAD);
        due("add, FULL", x.add(3, 4), FULL);
        due("movePoint, BAD before STATE, below", x.movePoint(-1, 45), BAD);
        due("movePoint, BAD before STATE, above", x.movePoint(12, 45), BAD);
        due("movePoint, BAD before STATE, new object", Checks.withPoints(45).movePoint(1, 45), BAD);
        due("movePoint, STATE, though 12 points", x.movePoint(1, 45), STATE);
        due("movePoint, no FULL with 12 points", x.movePoint(1, 46), 2);
        due("dropPoint, BAD", x.dropPoint(12), BAD);
        due("dropPoint, STATE", x.dropPoint(11), STATE);
    }

    /** "NONE .. is returned only if no error code applies." */
    private static void noneOnlyWithoutAnErrorCode() {
        DimensionLines x = Checks.drawn("p0,30,50,70;0-1");
        due("point that is no end", x.point(3, 2), NONE);
        due("no such point, what would be NONE", x.point(4, 2), BAD);
        due("at, lane without dimensions", x.at(1, 0), NONE);
        due("at, lane without dimensions, position below", x.at(1, -10), BAD);
        due("at, lane without dimensions, position above", x.at(1, 401), BAD);
        due("at, no such lane, position without dimensions", x.at(-1, 300), BAD);
        due("distance, not bound", x.distance(2, 3, true), NONE);
        due("distance, a point without dimensions and itself", x.distance(3, 3, true), BAD);
        due("distance, a point without dimensions and no point", x.distance(3, 4, false), BAD);
        due("ifExact, not bound", x.ifExact(0, 2, 3), NONE);
        due("ifExact, not bound, no such dimension", x.ifExact(1, 2, 3), BAD);
        due("ifExact, not bound, dimension -1", x.ifExact(-1, 2, 3), BAD);
        due("ifExact, a point without dimensions and itself", x.ifExact(0, 3, 3), BAD);
        due("critical, not bound", x.critical(3, 2), NONE);
        due("critical, a point without dimensions and itself", x.critical(3, 3), BAD);
        due("critical, a point without dimensions and no point", x.critical(-1, 3), BAD);
        due("chain without dimensions", x.chain(5, 8), NONE);
        due("chain without dimensions, what above", x.chain(5, 9), BAD);
        due("chain without dimensions, what below", x.chain(5, -1), BAD);
        due("no such chain, what would be NONE", x.chain(6, 7), BAD);
        due("no such chain, what would be NONE, 0", x.chain(0, 1), BAD);
        DimensionLines none = new DimensionLines();
        due("ifExact without points and dimensions", none.ifExact(0, 0, 1), BAD);
        due("ifExact without dimensions, not bound", Checks.withPoints(0, 1).ifExact(0, 0, 1), BAD);
        due("critical without points", none.critical(0, 1), BAD);
        due("distance without points", none.distance(0, 1, true), BAD);
    }

    private static void refusedCallsChangeNothing() {
        List<Call> calls = new ArrayList<>();
        refusedTextAndPoints(calls);
        refusedDimensions(calls);
        refusedQuestions(calls);
        for (Call call : calls) {
            changesNothing(call, Checks::full);
        }
    }

    private static void changesNothing(Call call, Supplier<DimensionLines> made) {
        DimensionLines x = made.get();
        DimensionLines twin = made.get();
        due(call.name(), call.made().applyAsLong(x), call.due());
        due(call.name() + " leaves faultKind", x.faultKind(), twin.faultKind());
        CHECKS.sameWhole("behind " + call.name(), x, twin);
    }

    private static void refusedTextAndPoints(List<Call> calls) {
        for (int code : new int[] {LEAST, -1, 0, 31, 127, 256 + 'p', GREATEST}) {
            calls.add(new Call("type " + code, x -> x.type(code), BAD));
        }
        calls.add(new Call("type into 80 characters", x -> x.type('p'), FULL));
        for (int position : new int[] {LEAST, -1, 301, 65536 + 5, GREATEST}) {
            calls.add(new Call("addPoint " + position, x -> x.addPoint(position), BAD));
            calls.add(new Call("movePoint to " + position, x -> x.movePoint(4, position), BAD));
        }
        calls.add(new Call("addPoint, taken", x -> x.addPoint(45), STATE));
        calls.add(new Call("addPoint, the 13th", x -> x.addPoint(46), FULL));
        for (int point : new int[] {LEAST, -1, 12, GREATEST}) {
            calls.add(new Call("movePoint " + point, x -> x.movePoint(point, 46), BAD));
            calls.add(new Call("dropPoint " + point, x -> x.dropPoint(point), BAD));
            calls.add(new Call("add from " + point, x -> x.add(point, 3), BAD));
            calls.add(new Call("add to " + point, x -> x.add(3, point), BAD));
        }
        calls.add(new Call("movePoint, taken below", x -> x.movePoint(4, 45), STATE));
        calls.add(new Call("movePoint, taken above", x -> x.movePoint(4, 300), STATE));
        calls.add(new Call("dropPoint of a first end", x -> x.dropPoint(0), STATE));
        calls.add(new Call("dropPoint of a second end", x -> x.dropPoint(11), STATE));
        calls.add(new Call("add of one point", x -> x.add(3, 3), BAD));
        calls.add(new Call("add of the 17th", x -> x.add(3, 4), FULL));
    }

    private static void refusedDimensions(List<Call> calls) {
        for (int d : new int[] {LEAST, -1, 16, GREATEST}) {
            calls.add(new Call("drop " + d, x -> x.drop(d), BAD));
            calls.add(new Call("setTolerance of " + d, x -> x.setTolerance(d, 7, 8), BAD));
            calls.add(new Call("setChain of " + d, x -> x.setChain(d, 4), BAD));
            calls.add(new Call("setLeast of " + d, x -> x.setLeast(d, 4), BAD));
        }
        for (int wrong : new int[] {LEAST, -1, 21, GREATEST}) {
            calls.add(new Call("setTolerance minus " + wrong, x -> x.setTolerance(3, wrong, 8), BAD));
            calls.add(new Call("setTolerance plus " + wrong, x -> x.setTolerance(3, 8, wrong), BAD));
        }
        for (int wrong : new int[] {LEAST, -1, 6, GREATEST}) {
            calls.add(new Call("setChain " + wrong, x -> x.setChain(3, wrong), BAD));
        }
        for (int wrong : new int[] {LEAST, -1, 10, GREATEST}) {
            calls.add(new Call("setLeast " + wrong, x -> x.setLeast(3, wrong), BAD));
        }
        for (int wrong : new int[] {LEAST, -1, 0, 10, GREATEST}) {
            calls.add(new Call("setLetter " + wrong, x -> x.setLetter(wrong), BAD));
            calls.add(new Call("setArrow " + wrong, x -> x.setArrow(wrong), BAD));
        }
    }

    private static void refusedQuestions(List<Call> calls) {
        for (int wrong : new int[] {LEAST, -1, 16, GREATEST}) {
            calls.add(new Call("point " + wrong, x -> x.point(wrong, 0), BAD));
            calls.add(new Call("point, " + wrong, x -> x.point(0, wrong), BAD));
            calls.add(new Call("dimension " + wrong, x -> x.dimension(wrong, 0), BAD));
            calls.add(new Call("dimension, " + wrong, x -> x.dimension(0, wrong), BAD));
            calls.add(new Call("distance from " + wrong, x -> x.distance(wrong, 0, true), BAD));
            calls.add(new Call("distance to " + wrong, x -> x.distance(0, wrong, false), BAD));
            calls.add(new Call("ifExact of " + wrong, x -> x.ifExact(wrong, 0, 1), BAD));
            calls.add(new Call("ifExact from " + wrong, x -> x.ifExact(0, wrong, 1), BAD));
            calls.add(new Call("ifExact to " + wrong, x -> x.ifExact(0, 1, wrong), BAD));
            calls.add(new Call("critical from " + wrong, x -> x.critical(wrong, 1), BAD));
            calls.add(new Call("critical to " + wrong, x -> x.critical(1, wrong), BAD));
            calls.add(new Call("chain " + wrong, x -> x.chain(wrong, 0), BAD));
            calls.add(new Call("chain, " + wrong, x -> x.chain(1, wrong), BAD));
            calls.add(new Call("ifArrow " + wrong, x -> x.ifArrow(wrong), BAD));
            calls.add(new Call("count " + wrong, x -> x.count(wrong), BAD));
        }
        calls.add(new Call("at lane -1", x -> x.at(-1, 0), BAD));
        calls.add(new Call("at lane least", x -> x.at(LEAST, 0), BAD));
        calls.add(new Call("at -10", x -> x.at(0, -10), BAD));
        calls.add(new Call("at 401", x -> x.at(0, 401), BAD));
        calls.add(new Call("distance of one point", x -> x.distance(4, 4, true), BAD));
        calls.add(new Call("ifExact of one point", x -> x.ifExact(4, 4, 4), BAD));
        calls.add(new Call("critical of one point", x -> x.critical(4, 4), BAD));
        calls.add(new Call("ifArrow 0", x -> x.ifArrow(0), BAD));
    }

    /** A drawing without points and dimensions, an empty text buffer, no remembered states. */
    private static void refusedCallsOfAnEmptyDrawingChangeNothing() {
        List<Call> calls = new ArrayList<>();
        refusedQuestions(calls);
        calls.removeIf(call -> call.name().startsWith("at"));
        calls.add(new Call("undo", DimensionLines::undo, STATE));
        calls.add(new Call("type 31", x -> x.type(31), BAD));
        calls.add(new Call("addPoint -1", x -> x.addPoint(-1), BAD));
        calls.add(new Call("addPoint 301", x -> x.addPoint(301), BAD));
        calls.add(new Call("movePoint 0", x -> x.movePoint(0, 5), BAD));
        calls.add(new Call("dropPoint 0", x -> x.dropPoint(0), BAD));
        calls.add(new Call("add 0, 1", x -> x.add(0, 1), BAD));
        calls.add(new Call("drop 0", x -> x.drop(0), BAD));
        calls.add(new Call("setTolerance of 0", x -> x.setTolerance(0, 1, 1), BAD));
        calls.add(new Call("setChain of 0", x -> x.setChain(0, 1), BAD));
        calls.add(new Call("setLeast of 0", x -> x.setLeast(0, 1), BAD));
        calls.add(new Call("setLetter 0", x -> x.setLetter(0), BAD));
        calls.add(new Call("setArrow 10", x -> x.setArrow(10), BAD));
        for (Call call : calls) {
            changesNothing(call, DimensionLines::new);
        }
    }

    /** Behind fewer than 8 changes a state that is recorded too much would be one more. */
    private static void refusedCallsRecordNothing() {
        DimensionLines x = Checks.drawn("p0,30,50;0-1");
        x.addPoint(-1);
        x.addPoint(30);
        x.movePoint(3, 5);
        x.movePoint(0, 50);
        x.dropPoint(0);
        x.dropPoint(3);
        x.add(1, 1);
        x.drop(1);
        x.setTolerance(0, 21, 0);
        x.setTolerance(0, 0, -1);
        x.setChain(0, 6);
        x.setLeast(0, 10);
        x.setLetter(10);
        x.setArrow(0);
        x.type(' ');
        x.load();
        due("refused calls record nothing", x.count(10), 1);
        due("type and clearText are no changes", x.clearText() + 10 * x.count(10), 13 + 10);
        due("undo goes to the state before load", x.undo(), 0);
        due("points then", x.count(0), 0);
    }

    /** "then nothing but what faultKind() returns is changed" */
    private static void aFaultChangesNothingButFaultKind() {
        String[] texts = {"", "x", "p301", "p1,2;0-1;0-1;1-1", "p1,2,3;0-1+1-1c6", Checks.EIGHTY.substring(0, 79) + "+"};
        int[] kinds = {1, 1, 2, 2, 2, 1};
        int[] answers = {-10, -10, -11, -25, -25, -89};
        for (int i = 0; i < texts.length; i++) {
            DimensionLines x = Checks.full();
            DimensionLines twin = Checks.full();
            Checks.typeText(x, texts[i]);
            Checks.typeText(twin, texts[i]);
            due("load '" + texts[i] + "'", x.load(), answers[i]);
            due("faultKind of '" + texts[i] + "'", x.faultKind(), kinds[i]);
            due("faultKind without load", twin.faultKind(), 0);
            CHECKS.sameWhole("behind the fault of '" + texts[i] + "'", x, twin);
        }
    }

    /** "Nothing changes." */
    private static void questionsChangeNothing() {
        DimensionLines x = Checks.full();
        DimensionLines twin = Checks.full();
        for (int i = 0; i < 5; i++) {
            x.point(11, i);
            x.chain(i + 1, 7);
            x.chain(i + 1, 8);
        }
        for (int what = 0; what <= 12; what++) {
            x.dimension(15, what);
            x.count(what);
        }
        for (int length = 1; length <= 9; length++) {
            x.ifArrow(length);
        }
        for (int d = 0; d < 16; d++) {
            x.ifExact(d, 0, 11);
        }
        x.distance(0, 11, true);
        x.distance(11, 0, false);
        x.critical(3, 9);
        x.needed();
        x.at(0, 0);
        x.at(GREATEST, 400);
        x.faultKind();
        x.digest();
        CHECKS.sameWhole("behind questions", x, twin);
    }
}
