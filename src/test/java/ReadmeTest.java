import java.nio.file.Files;
import java.nio.file.Path;
import java.util.ArrayDeque;
import java.util.Deque;

/** The calls of README.md, in their order, answer what is said behind them there. */
public final class ReadmeTest {
    private static final Checks CHECKS = new Checks("ReadmeTest");
    /** The rows "x.call(..);  // answer .." that have not been met yet. */
    private static final Deque<String> ROWS = new ArrayDeque<>();

    public static void main(String[] args) throws Exception {
        for (String row : Files.readAllLines(Path.of("README.md"))) {
            if (row.startsWith("x.")) {
                ROWS.add(row);
            }
        }
        makingAndCalling();
        errorCodes();
        readingATextAndAFault();
        CHECKS.due("rows of README.md that are left", ROWS.size(), 0);
        CHECKS.finish();
    }

    private static void said(String call, int got) {
        String row = ROWS.isEmpty() ? "" : ROWS.remove();
        CHECKS.holds("README.md has '" + call + "' where it has '" + row + "'", row.startsWith(call + "; "));
        String answer = row.replaceFirst(".*// (-?\\d+).*", "$1");
        CHECKS.holds(call + " answered " + got + ", README.md says '" + row + "'", answer.equals("" + got));
    }

    private static void makingAndCalling() {
        DimensionLines x = new DimensionLines();
        said("x.addPoint(50)", x.addPoint(50));
        said("x.addPoint(0)", x.addPoint(0));
        said("x.addPoint(30)", x.addPoint(30));
        said("x.add(0, 1)", x.add(0, 1));
        said("x.add(1, 2)", x.add(1, 2));
        said("x.add(2, 0)", x.add(2, 0));
        said("x.setTolerance(0, 1, 2)", x.setTolerance(0, 1, 2));
        said("x.setChain(0, 1)", x.setChain(0, 1));
        said("x.setChain(1, 1)", x.setChain(1, 1));
        said("x.dimension(2, 10)", x.dimension(2, 10));
        said("x.point(1, 2)", x.point(1, 2));
        said("x.distance(0, 2, true)", x.distance(0, 2, true));
        said("x.dimension(0, 11)", x.dimension(0, 11));
        said("x.chain(1, 7)", x.chain(1, 7));
        said("x.ifArrow(9)", x.ifArrow(9));
        said("x.undo()", x.undo());
    }

    private static void errorCodes() {
        DimensionLines x = new DimensionLines();
        said("x.addPoint(301)", x.addPoint(301));
        said("x.addPoint(7)", x.addPoint(7));
        said("x.addPoint(7)", x.addPoint(7));
        said("x.undo()", x.undo());
        said("x.undo()", x.undo());
        said("x.at(0, 7)", x.at(0, 7));
    }

    private static void readingATextAndAFault() {
        DimensionLines x = new DimensionLines();
        for (char c : "p0,30,50;0-1+2-1c1;1-2c1;0-2".toCharArray()) x.type(c);
        said("x.load()", x.load());
        said("x.dimension(0, 4)", x.dimension(0, 4));
        said("x.dimension(0, 3)", x.dimension(0, 3));
        said("x.dimension(0, 5)", x.dimension(0, 5));
        said("x.clearText()", x.clearText());
        for (char c : "p0,30;0-1+21".toCharArray()) x.type(c);
        said("x.load()", x.load());
        said("x.faultKind()", x.faultKind());
        said("x.count(1)", x.count(1));
    }
}
