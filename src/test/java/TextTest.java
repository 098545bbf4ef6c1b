/** Promises 1 to 5: a new object, type, clearText, load, faultKind. */
public final class TextTest {
    private static final Checks CHECKS = new Checks("TextTest");
    private static final String TWELVE = "p0,1,2,3,4,5,6,7,8,9,10,11";
    private static final String SIXTEEN = "p0,1" + ";0-1".repeat(16);

    public static void main(String[] args) {
        promise1NewObject();
        promise2Type();
        promise3ClearText();
        promise4LoadsDrawings();
        promise4LoadKeepsSettingsAndText();
        promise4FaultsOfPositions();
        promise4FaultsOfEnds();
        promise4FaultsOfTolerancesAndChains();
        promise4FaultChangesNothing();
        promise5FaultKind();
        CHECKS.finish();
    }

    private static void due(String call, long got, long want) {
        CHECKS.due(call, got, want);
    }

    private static void promise1NewObject() {
        DimensionLines x = new DimensionLines();
        int[] counts = {0, 0, 0, 0, 0, 0, 0, 4, 3, 0, 0};
        for (int what = 0; what < counts.length; what++) {
            due("new: count " + what, x.count(what), counts[what]);
        }
        due("new: faultKind", x.faultKind(), 0);
        due("new: point", x.point(0, 0), DimensionLines.BAD);
        due("new: dimension", x.dimension(0, 0), DimensionLines.BAD);
        due("new: undo", x.undo(), DimensionLines.STATE);
        due("new: clearText", x.clearText(), 0);
        due("new: digest", x.digest(), -7441332540240976417L);
    }

    private static void promise2Type() {
        DimensionLines x = new DimensionLines();
        due("type 31", x.type(31), DimensionLines.BAD);
        due("type 127", x.type(127), DimensionLines.BAD);
        due("type least", x.type(Integer.MIN_VALUE), DimensionLines.BAD);
        due("type greatest", x.type(Integer.MAX_VALUE), DimensionLines.BAD);
        due("type: nothing appended", x.count(9), 0);
        due("type 32", x.type(32), 1);
        due("type 126", x.type(126), 2);
        for (int n = 3; n <= 80; n++) {
            due("type the " + n + "th", x.type('p'), n);
        }
        due("type the 81st", x.type('p'), DimensionLines.FULL);
        due("type the 81st, out of range", x.type(31), DimensionLines.BAD);
        due("type: the full buffer stays", x.count(9), 80);
        due("type: no change", x.count(10), 0);
        x.clearText();
        due("type behind clearText", x.type('p'), 1);
    }

    private static void promise3ClearText() {
        DimensionLines x = Checks.drawn("p0,1;0-1");
        due("clearText", x.clearText(), 8);
        due("clearText again", x.clearText(), 0);
        due("clearText: empty", x.count(9), 0);
        due("clearText: the drawing stays", x.count(1), 1);
        due("clearText: no change", x.count(10), 1);
        due("load of the emptied text", x.load(), -10);
    }

    private static void promise4LoadsDrawings() {
        loads("p0", 0);
        loads("p300", 0);
        loads("p000,001,300", 0);
        loads(TWELVE, 0);
        loads(TWELVE + ";0-9;8-9", 2);
        loads("p0,1;0-1", 1);
        loads("p0,1;0-1+0-0c0", 1);
        loads(SIXTEEN, 16);
        DimensionLines x = Checks.drawn("p7,030,50,120;0-1+2-1c1;1-2+20;2-3-05c5;0-3c0;0-2+1c3;1-3-20");
        int[] positions = {7, 30, 50, 120};
        for (int p = 0; p < 4; p++) {
            due("loaded position " + p, x.point(p, 0), positions[p]);
        }
        int[][] rows = {{0, 1, 23, 1, 2, 1, 0}, {1, 2, 20, 0, 20, 0, 0}, {2, 3, 70, 5, 0, 5, 0},
            {0, 3, 113, 0, 0, 0, 0}, {0, 2, 43, 0, 1, 3, 0}, {1, 3, 90, 20, 0, 0, 0}};
        for (int d = 0; d < rows.length; d++) {
            for (int what = 0; what <= 6; what++) {
                due("loaded dimension " + d + ", " + what, x.dimension(d, what), rows[d][what]);
            }
        }
    }

    private static void promise4LoadKeepsSettingsAndText() {
        DimensionLines x = Checks.drawn("p0,9;0-1+3-4c2");
        x.setLetter(7);
        x.setArrow(5);
        x.setLeast(0, 6);
        due("load again", x.load(), 1);
        due("load: the letter stays", x.count(7), 7);
        due("load: the arrow stays", x.count(8), 5);
        due("load: least lanes are 0", x.dimension(0, 6), 0);
        due("load: the text stays", x.count(9), 14);
        due("load: a change", x.count(10), 5);
        Checks.typeText(x, "p1,2,3");
        due("load in place of it", x.load(), 0);
        due("load in place of it: points", x.count(0), 3);
        due("load in place of it: dimensions", x.count(1), 0);
        due("undo of load", x.undo(), 5);
        due("undo of load: points", x.count(0), 2);
        due("undo of load: chain", x.dimension(0, 5), 2);
        due("undo again", x.undo(), 4);
        due("undo again: least lane", x.dimension(0, 6), 6);
    }

    private static void loads(String text, int dimensions) {
        DimensionLines x = new DimensionLines();
        Checks.typeText(x, text);
        due("load '" + text + "'", x.load(), dimensions);
        due("faultKind '" + text + "'", x.faultKind(), 0);
        due("count(1) '" + text + "'", x.count(1), dimensions);
        due("count(10) '" + text + "'", x.count(10), 1);
    }

    private static void fails(String text, int kind, int index) {
        DimensionLines x = new DimensionLines();
        Checks.typeText(x, text);
        due("load '" + text + "'", x.load(), -10 - index);
        due("faultKind '" + text + "'", x.faultKind(), kind);
        due("count(0) '" + text + "'", x.count(0), 0);
        due("count(10) '" + text + "'", x.count(10), 0);
    }

    private static void promise4FaultsOfPositions() {
        fails("", 1, 0);
        fails("P0", 1, 0);
        fails("0,1", 1, 0);
        fails("p", 1, 1);
        fails("p,1", 1, 1);
        fails("p;0-1", 1, 1);
        fails("p-5", 1, 1);
        fails("p 5", 1, 1);
        fails("p5 ", 1, 2);
        fails("p5x", 1, 2);
        fails("p0,", 1, 3);
        fails("p0,,1", 1, 3);
        fails("p0,1,", 1, 5);
        fails("p301", 2, 1);
        fails("p301,302", 2, 1);
        fails("p301x", 2, 1);
        fails("p3011", 1, 4);
        fails("p0300", 1, 4);
        fails("p999", 2, 1);
        fails("p5,5", 2, 3);
        fails("p5,05", 2, 3);
        fails("p5,4;9-9", 2, 3);
        fails("p5,4x", 2, 3);
        fails("p5,0040", 1, 6);
        fails("p5,60,59", 2, 6);
        fails(TWELVE + ",12", 1, TWELVE.length());
        fails(TWELVE + ",", 1, TWELVE.length());
        fails("p0,1,2,3,4,5,6,7,8,9,10,10,", 2, 24);
    }

    private static void promise4FaultsOfEnds() {
        fails("p0;", 1, 3);
        fails("p0;0-0", 2, 5);
        fails("p0;0-1", 2, 5);
        fails("p0,1;;", 1, 5);
        fails("p0,1;-1", 1, 5);
        fails("p0,1;0", 1, 6);
        fails("p0,1;0+1", 1, 6);
        fails("p0,1;00-1", 1, 6);
        fails("p0,1;20-1", 1, 6);
        fails("p0,1;2", 2, 5);
        fails("p0,1;2x", 2, 5);
        fails("p0,1;2-9", 2, 5);
        fails("p0,1;0-", 1, 7);
        fails("p0,1;0--", 1, 7);
        fails("p0,1;0-2", 2, 7);
        fails("p0,1;0-2x", 2, 7);
        fails("p0,1;0-0", 2, 7);
        fails("p0,1;1-0", 2, 7);
        fails("p0,1;0-11", 1, 8);
        fails("p0,1;0-21", 1, 8);
        fails("p0,1;0-1,2", 1, 8);
        fails("p0,1;0-1p", 1, 8);
        fails("p0,1;0-1;", 1, 9);
        fails("p0,1;0-1;1-1", 2, 11);
        fails(TWELVE + ";0-10", 1, TWELVE.length() + 4);
        fails(SIXTEEN + ";", 1, SIXTEEN.length());
        fails(SIXTEEN + ";0-1", 1, SIXTEEN.length());
        fails("p0,1" + ";0-1".repeat(15) + ";0-0;", 2, 67);
        fails("p0,1" + ";0-1".repeat(15) + ";0-1c6;", 2, 69);
    }

    private static void promise4FaultsOfTolerancesAndChains() {
        loads("p0,1;0-1+20-20c5", 1);
        loads("p0,1;0-1+05-00", 1);
        fails("p0,1;0-1+", 1, 9);
        fails("p0,1;0-1+-2", 1, 9);
        fails("p0,1;0-1+21", 2, 9);
        fails("p0,1;0-1+99x", 2, 9);
        fails("p0,1;0-1+005", 1, 11);
        fails("p0,1;0-1+993", 1, 11);
        fails("p0,1;0-1+1+2", 1, 10);
        fails("p0,1;0-1+1-", 1, 11);
        fails("p0,1;0-1-", 1, 9);
        fails("p0,1;0-1-21", 2, 9);
        fails("p0,1;0-1-200", 1, 11);
        fails("p0,1;0-1-2+1", 1, 10);
        fails("p0,1;0-1-2-1", 1, 10);
        fails("p0,1;0-1c", 1, 9);
        fails("p0,1;0-1c;", 1, 9);
        fails("p0,1;0-1c6", 2, 9);
        fails("p0,1;0-1c9;", 2, 9);
        fails("p0,1;0-1c10", 1, 10);
        fails("p0,1;0-1c66", 1, 10);
        fails("p0,1;0-1c1c1", 1, 10);
        fails("p0,1;0-1c1+2", 1, 10);
        fails("p0,1;0-1c1-2", 1, 10);
        fails("p0,1;0-1C1", 1, 8);
        fails("p0,1;0-1+21-21c6", 2, 9);
    }

    private static void promise4FaultChangesNothing() {
        DimensionLines x = Checks.drawn("p0,40,90;0-1+1c2;1-2;0-2-3");
        Checks.typeText(x, "p1,2,3,4;0-1;0-2;3-3");
        long before = x.digest();
        due("load of a fault behind good dimensions", x.load(), -29);
        due("a fault changes nothing", x.digest(), before);
        due("a fault records nothing", x.count(10), 1);
        due("a fault leaves the text", x.count(9), 20);
    }

    private static void promise5FaultKind() {
        DimensionLines x = new DimensionLines();
        due("faultKind before a load", x.faultKind(), 0);
        x.load();
        due("faultKind 1", x.faultKind(), 1);
        Checks.typeText(x, "p301");
        due("faultKind stays when the text changes", x.faultKind(), 1);
        x.load();
        due("faultKind 2", x.faultKind(), 2);
        x.addPoint(3);
        x.undo();
        due("faultKind stays behind undo", x.faultKind(), 2);
        due("faultKind asked again", x.faultKind(), 2);
        Checks.typeText(x, "p300");
        x.load();
        due("faultKind behind a good load", x.faultKind(), 0);
        x.type(' ');
        x.load();
        due("faultKind behind a bad one again", x.faultKind(), 1);
        x.undo();
        due("faultKind behind undo of the load", x.faultKind(), 1);
    }
}
