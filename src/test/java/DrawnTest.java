/** Promises 16, 17, 18 and 24: point, dimension, at, ifArrow; forms, extents, lanes, witness lines. */
public final class DrawnTest {
    private static final Checks CHECKS = new Checks("DrawnTest");
    private static final int BAD = DimensionLines.BAD;
    private static final int NONE = DimensionLines.NONE;
    private static final String EXAMPLE = "p0,30,50,120;0-1+2-1c1;1-2+1-1c1;2-3c1;0-3+1-1;0-2";

    public static void main(String[] args) {
        promise16Point();
        promise16Groups();
        promise17Dimension();
        promise17Forms();
        promise17Extents();
        lanesOfShorterOnesLieBelow();
        lanesKeepExtentsApart();
        lanesOfUnits();
        lanesInOrder();
        witnessLines();
        promise18At();
        promise24IfArrow();
        CHECKS.finish();
    }

    private static void due(String call, long got, long want) {
        CHECKS.due(call, got, want);
    }

    private static void lanes(String text, int... lanes) {
        lanes(text, Checks.drawn(text), lanes);
    }

    private static void lanes(String text, DimensionLines x, int... lanes) {
        int highest = -1;
        for (int d = 0; d < lanes.length; d++) {
            due(text + ": lane of " + d, x.dimension(d, 10), lanes[d]);
            highest = Math.max(highest, lanes[d]);
        }
        due(text + ": lanes", x.count(3), highest + 1);
    }

    private static void promise16Point() {
        DimensionLines x = Checks.drawn("p5,30,50,120,200;0-1;1-2;0-3;1-2");
        int[][] rows = {{5, 2, 3, 0, 0}, {30, 3, 2, 0, 0}, {50, 2, 1, 0, 0}, {120, 1, 3, 0, 0}, {200, 0, NONE, 0, 1}};
        for (int p = 0; p < 5; p++) {
            for (int what = 0; what <= 4; what++) {
                due("point " + p + ", " + what, x.point(p, what), rows[p][what]);
            }
        }
        x.drop(3);
        int[] tops = {2, 1, 0, 2, NONE};
        for (int p = 0; p < 5; p++) {
            due("point " + p + " behind drop, 2", x.point(p, 2), tops[p]);
        }
        due("point -1", x.point(-1, 0), BAD);
        due("point 5", x.point(5, 0), BAD);
        due("point, -1", x.point(0, -1), BAD);
        due("point, 5", x.point(0, 5), BAD);
        due("point 4, 5", x.point(4, 5), BAD);
    }

    private static void promise16Groups() {
        DimensionLines x = Checks.drawn("p0,10,20,30,40,50,60;1-4;3-5;0-6;4-6");
        int[] groups = {0, 0, 1, 2, 0, 2, 0};
        for (int p = 0; p < groups.length; p++) {
            due("group of " + p, x.point(p, 4), groups[p]);
        }
        due("groups", x.count(5), 3);
        x.add(2, 3);
        due("group of 3 with 2", x.point(3, 4), 1);
        due("group of 5 with 2", x.point(5, 4), 1);
        due("groups then", x.count(5), 2);
        x.drop(2);
        int[] then = {0, 1, 2, 2, 1, 2, 1};
        for (int p = 0; p < then.length; p++) {
            due("group then of " + p, x.point(p, 4), then[p]);
        }
    }

    private static void promise17Dimension() {
        DimensionLines x = Checks.drawn(EXAMPLE);
        x.setLeast(2, 1);
        int[][] rows = {
            {0, 1, 30, 1, 2, 1, 0, 0, 0, 30, 1, 1, 0},
            {1, 2, 20, 1, 1, 1, 0, 0, 30, 50, 1, 0, 0},
            {2, 3, 70, 0, 0, 1, 1, 0, 50, 120, 1, 0, 0},
            {0, 3, 120, 1, 1, 0, 0, 0, 0, 120, 2, 1, 0},
            {0, 2, 50, 0, 0, 0, 0, 0, 0, 50, 0, 0, 1}};
        for (int d = 0; d < rows.length; d++) {
            for (int what = 0; what <= 12; what++) {
                due("dimension " + d + ", " + what, x.dimension(d, what), rows[d][what]);
            }
        }
        due("dimension -1", x.dimension(-1, 0), BAD);
        due("dimension 5", x.dimension(5, 0), BAD);
        due("dimension, -1", x.dimension(0, -1), BAD);
        due("dimension, 13", x.dimension(0, 13), BAD);
    }

    private static void form(int letter, int arrow, int value, int form) {
        DimensionLines x = new DimensionLines();
        x.setLetter(letter);
        x.setArrow(arrow);
        x.addPoint(0);
        x.addPoint(value);
        x.add(0, 1);
        due("form with " + letter + " and " + arrow + " of " + value, x.dimension(0, 7), form);
    }

    private static void promise17Forms() {
        int[] values = {1, 3, 4, 9, 10, 13, 14, 99, 100, 300};
        int[] forms = {2, 2, 1, 1, 1, 1, 0, 0, 0, 0};
        for (int i = 0; i < values.length; i++) {
            form(4, 3, values[i], forms[i]);
        }
        form(1, 1, 1, 1);
        form(1, 1, 2, 1);
        form(1, 1, 3, 0);
        form(9, 9, 8, 2);
        form(9, 9, 9, 1);
        form(9, 9, 10, 2);
        form(9, 9, 17, 2);
        form(9, 9, 18, 1);
        form(9, 9, 35, 1);
        form(9, 9, 36, 0);
        form(9, 9, 99, 0);
        form(9, 1, 9, 1);
        form(9, 1, 10, 2);
        form(3, 1, 4, 1);
        form(3, 1, 5, 0);
        form(3, 1, 9, 0);
        form(3, 1, 10, 0);
    }

    private static void extent(int letter, int from, int to, int begin, int end) {
        DimensionLines x = new DimensionLines();
        x.setLetter(letter);
        x.addPoint(from);
        x.addPoint(to);
        x.add(0, 1);
        due("extent of " + from + " to " + to + " begins", x.dimension(0, 8), begin);
        due("extent of " + from + " to " + to + " ends", x.dimension(0, 9), end);
    }

    private static void promise17Extents() {
        extent(4, 100, 114, 100, 114);
        extent(4, 100, 113, 97, 116);
        extent(4, 100, 104, 97, 107);
        extent(4, 100, 103, 97, 110);
        extent(4, 0, 1, -3, 8);
        extent(9, 100, 117, 97, 138);
        extent(9, 100, 118, 97, 121);
        extent(9, 0, 300, 0, 300);
    }

    private static void lanesOfShorterOnesLieBelow() {
        lanes("p0,100,200,300;0-3;0-2;0-1", 2, 1, 0);
        lanes("p0,100,200,300;0-1;0-1;0-1", 0, 1, 2);
        lanes("p0,50,100,150,200;1-2;0-4;3-4", 0, 1, 0);
        lanes("p0,50,100,150,200;1-2;0-3;2-4", 0, 2, 1);
        DimensionLines x = Checks.drawn("p0,100,200,300;0-3;0-1");
        x.setLeast(1, 6);
        lanes("above a covered one with a least lane", x, 7, 6);
        x.setLeast(1, 0);
        x.setLeast(0, 5);
        lanes("a covering one with a least lane", x, 5, 0);
        x.setLeast(1, 9);
        lanes("the highest least lane", x, 10, 9);
    }

    private static void lanesKeepExtentsApart() {
        lanes("p0,30,60;0-1;1-2", 0, 1);
        lanes("p0,30,31,61;0-1;2-3", 0, 0);
        lanes("p0,30,33,40;0-1;2-3", 1, 0);
        lanes("p0,30,34,40;0-1;2-3", 0, 0);
        lanes("p0,3,13,43;0-1;2-3", 0, 0);
        lanes("p0,3,10,43;0-1;2-3", 0, 1);
        DimensionLines x = Checks.drawn("p0,100,130,200;0-2;1-3");
        lanes("overlap", x, 1, 0);
        x.setLeast(1, 1);
        lanes("the lane below is free", x, 0, 1);
        x.setLeast(0, 1);
        lanes("both not below 1", x, 2, 1);
    }

    private static void lanesOfUnits() {
        lanes("p0,30,60,90;0-1c1;1-2c1;2-3c1", 0, 0, 0);
        lanes("p0,30,60,90;0-1c1;1-2c2;2-3c1", 1, 0, 1);
        lanes("p0,30,60,90,120,150;0-1c1;4-5c1;2-3", 1, 1, 0);
        lanes("p0,30,60,90,120,150;0-1c1;4-5c1;2-3c5;0-5", 1, 1, 0, 2);
        lanes("p0,60,100,150;0-3c3;0-1c3;1-2", 1, 1, 0);
        DimensionLines x = Checks.drawn("p0,30,60,90;0-1c1;1-2c1;2-3c1;0-3");
        x.setLeast(1, 4);
        lanes("the greatest least lane of a unit", x, 4, 4, 4, 5);
        x.setLeast(2, 2);
        lanes("the greatest least lane of a unit again", x, 4, 4, 4, 5);
        due("units", x.count(2), 2);
        lanes("p0,30,100,130,190;0-1c1;3-4c1;1-2", 1, 1, 0);
        lanes("p0,30,50,80,110,190,220;0-1c1;5-6c1;2-3c2;3-4c2", 1, 1, 0, 0);
        lanes("p0,50,100,160;1-2c1;0-1c1;1-3;2-3", 1, 1, 2, 0);
        lanes("p0,20,50,100,160;2-3c1;0-1c1;1-3", 1, 1, 0);
        x = Checks.drawn("p0,40,60,100,140;0-1c1;3-4c1;1-4");
        lanes("a gap in a chain, but touched at its ends", x, 1, 1, 0);
    }

    private static void lanesInOrder() {
        lanes("p0,40,60;0-2;0-1;1-2", 2, 1, 0);
        lanes("p0,50,100;1-2;0-1", 1, 0);
        lanes("p0,50,100,150;1-3;0-2", 1, 0);
        lanes("p0,50,100;0-2c1;0-2;0-1c1", 0, 1, 0);
        lanes("p0,50,100;0-2;0-1c1;1-2c1", 0, 1, 1);
        lanes("p0,50,100;0-1c1;0-2;1-2c1", 0, 1, 0);
        lanes("p0,50,100;0-1c2;0-1c1;1-2c1;1-2c2", 0, 1, 1, 0);
    }

    private static void witnessLines() {
        DimensionLines x = Checks.drawn(EXAMPLE);
        int[] tops = {2, 1, 1, 2};
        int[] crossings = {0, 1, 0, 0};
        for (int p = 0; p < 4; p++) {
            due("witness line of " + p + " goes up to", x.point(p, 2), tops[p]);
            due("witness line of " + p + " crosses", x.point(p, 3), crossings[p]);
        }
        x = Checks.drawn("p0,50,100,150,200,250;0-3;2-5;1-4");
        lanes("three that overlap", x, 0, 2, 1);
        int[] three = {0, 1, 2, 0, 0, 0};
        int[] crossed = {2, 0, 1};
        for (int p = 0; p < 6; p++) {
            due("three that overlap: point " + p, x.point(p, 3), three[p]);
        }
        for (int d = 0; d < 3; d++) {
            due("three that overlap: dimension " + d, x.dimension(d, 12), crossed[d]);
        }
        due("three that overlap: crossings", x.count(4), 3);
        x = Checks.drawn("p0,100,200;0-2;0-1");
        x.setLeast(1, 3);
        due("a witness line to above crosses what lies below", x.point(1, 3), 0);
        x = Checks.drawn("p0,50,100,150;0-2c1;1-3c1");
        due("a witness line crosses nothing of its own lane", x.count(4), 0);
        due("a dimension of its own lane is not crossed", x.dimension(0, 12), 0);
        witnessLinesBehindChanges();
        x = Checks.drawn("p0,100,200;0-1;1-2;0-2");
        due("a witness line at an end crosses nothing", x.count(4), 0);
        x = Checks.drawn("p0,30,60,200;0-3;0-1c1;1-2c1");
        x.setLeast(1, 5);
        due("a dimension above is not crossed", x.count(4), 0);
        x = Checks.drawn("p0,30,60;0-2;0-2");
        due("a point without dimensions has no witness line", x.point(1, 3), 0);
    }

    private static void witnessLinesBehindChanges() {
        DimensionLines x = Checks.drawn("p0,50,100,150,200,250;0-3;2-5;1-4");
        due("crossings before a change", x.count(4), 3);
        x.setTolerance(0, 1, 1);
        due("crossings behind a change", x.count(4), 3);
        due("crossings of a point behind a change", x.point(2, 3), 2);
        due("crossings of a dimension behind a change", x.dimension(0, 12), 2);
        x.drop(2);
        due("crossings behind drop", x.count(4), 1);
        due("crossings of a point behind drop", x.point(1, 3), 0);
        x.drop(1);
        due("crossings of the only one", x.count(4), 0);
        due("at behind drop", x.at(1, 150), NONE);
        x.drop(0);
        due("at without dimensions", x.at(0, 50), NONE);
    }

    private static void promise18At() {
        DimensionLines x = Checks.drawn("p10,40,60,90,140,145;1-2c1;0-1c1;2-3c1;0-3;4-5");
        due("at begin", x.at(0, 10), 1);
        due("at before", x.at(0, 9), NONE);
        due("at a common end", x.at(0, 40), 0);
        due("at another common end", x.at(0, 60), 0);
        due("at end", x.at(0, 90), 2);
        due("at behind", x.at(0, 91), NONE);
        due("at lane 1", x.at(1, 90), 3);
        due("at lane 1 behind", x.at(1, 91), NONE);
        due("at lane 2", x.at(2, 50), NONE);
        due("at an extent before its arrow", x.at(0, 136), NONE);
        due("at an extent", x.at(0, 137), 4);
        due("at the end of an extent", x.at(0, 148), 4);
        due("at behind an extent", x.at(0, 149), NONE);
        due("at the highest lane", x.at(Integer.MAX_VALUE, 50), NONE);
        due("at lane -1", x.at(-1, 50), BAD);
        due("at lane least", x.at(Integer.MIN_VALUE, 50), BAD);
        due("at -9", x.at(0, -9), NONE);
        due("at -10", x.at(0, -10), BAD);
        due("at 400", x.at(0, 400), NONE);
        due("at 401", x.at(0, 401), BAD);
        x = Checks.drawn("p0,8,291,300;0-1;2-3");
        x.setArrow(9);
        x.setLetter(9);
        due("at the first place", x.at(0, -9), 0);
        due("at behind a label at the right", x.at(0, 26), 0);
        due("at behind it", x.at(0, 27), NONE);
        due("at the last place", x.at(0, 309), 1);
        due("at behind the last place", x.at(0, 310), NONE);
    }

    private static void promise24IfArrow() {
        DimensionLines x = Checks.drawn("p0,20,26,46;0-1;2-3");
        long before = x.digest();
        int[] lanes = {1, 1, 1, 1, 1, 1, 2, 2, 2};
        for (int length = 1; length <= 9; length++) {
            due("ifArrow " + length, x.ifArrow(length), lanes[length - 1]);
        }
        due("ifArrow 0", x.ifArrow(0), BAD);
        due("ifArrow 10", x.ifArrow(10), BAD);
        due("ifArrow changes nothing", x.digest(), before);
        due("ifArrow leaves the lanes", x.count(3), 1);
        for (int length = 1; length <= 9; length++) {
            x.setArrow(length);
            due("lanes with arrow " + length, x.count(3), lanes[length - 1]);
        }
        due("ifArrow of less", x.ifArrow(1), 1);
        due("ifArrow leaves the form", x.dimension(0, 7), 1);
        due("ifArrow without dimensions", new DimensionLines().ifArrow(5), 0);
    }
}
