/**
 * "Labels, arrows, extents", "Lanes", "Witness lines", promises 16, 17, 18 and 24: values just at a
 * width and one below, extents with just one number in common, spans that just cover.
 */
public final class DrawnBoundsTest {
    private static final Checks CHECKS = new Checks("DrawnBoundsTest");
    private static final int BAD = DimensionLines.BAD;
    private static final int NONE = DimensionLines.NONE;
    private static final int LEAST = Integer.MIN_VALUE;
    private static final int GREATEST = Integer.MAX_VALUE;

    public static void main(String[] args) {
        everyWidthAndLength();
        valuesJustAtTheWidth();
        valuesJustAtTheWidthAndTwoArrows();
        valuesWithOneDigitMore();
        valuesThatChange();
        extentsOfEachForm();
        extentsAtTheBorders();
        extentsWithOneNumberInCommon();
        extentsOfOtherLanes();
        extentsWithinAUnit();
        spansThatJustCover();
        spansOfChains();
        lanesFromTheLeastLaneOn();
        unitsInOrder();
        unitsOfNoneAndOfAll();
        theHighestLane();
        witnessLinesAtEnds();
        witnessLinesOfTheSameLane();
        witnessLinesOfNoEnds();
        propertiesOfPoints();
        groupsOfPoints();
        propertiesOfDimensions();
        atEachBorder();
        atTheSmallestOfSeveral();
        ifArrowAtEachBorder();
        CHECKS.finish();
    }

    private static void due(String call, long got, long want) {
        CHECKS.due(call, got, want);
    }

    private static DimensionLines one(int letter, int arrow, int from, int to) {
        DimensionLines x = Checks.withPoints(from, to);
        x.add(0, 1);
        x.setLetter(letter);
        x.setArrow(arrow);
        return x;
    }

    private static void form(int letter, int arrow, int value, int form) {
        due("form with letter " + letter + ", arrow " + arrow + ", value " + value,
                one(letter, arrow, 0, value).dimension(0, 7), form);
    }

    /** For every letter and arrow the values at both borders of the forms, and one below each. */
    private static void everyWidthAndLength() {
        for (int letter = 1; letter <= 9; letter++) {
            for (int arrow = 1; arrow <= 9; arrow++) {
                for (int digits = 1; digits <= 2; digits++) {
                    int width = letter * digits;
                    int both = width + 2 * arrow;
                    borderOfForms(letter, arrow, digits, width, 1);
                    borderOfForms(letter, arrow, digits, both, 0);
                }
                form(letter, arrow, 100, 0);
                form(letter, arrow, 300, 0);
            }
        }
    }

    private static void borderOfForms(int letter, int arrow, int digits, int border, int form) {
        if (hasDigits(border, digits)) {
            form(letter, arrow, border, form);
        }
        if (hasDigits(border - 1, digits)) {
            form(letter, arrow, border - 1, form + 1);
        }
    }

    private static boolean hasDigits(int value, int digits) {
        return digits == 1 ? value >= 1 && value <= 9 : value >= 10 && value <= 99;
    }

    /** "otherwise 1 if its value is at least the width of its label" */
    private static void valuesJustAtTheWidth() {
        form(4, 3, 4, 1);
        form(4, 3, 3, 2);
        form(9, 3, 9, 1);
        form(9, 3, 8, 2);
        form(2, 3, 2, 1);
        form(2, 3, 1, 2);
        form(9, 3, 18, 1);
        form(9, 3, 17, 2);
        form(6, 3, 12, 1);
        form(6, 3, 11, 2);
    }

    /** "0 if its value is at least the width of its label plus twice the length of an arrow" */
    private static void valuesJustAtTheWidthAndTwoArrows() {
        form(4, 3, 14, 0);
        form(4, 3, 13, 1);
        form(1, 1, 3, 0);
        form(1, 1, 2, 1);
        form(1, 4, 9, 0);
        form(1, 4, 8, 1);
        form(7, 1, 9, 0);
        form(7, 1, 8, 1);
        form(9, 9, 36, 0);
        form(9, 9, 35, 1);
        form(1, 9, 20, 0);
        form(1, 9, 19, 1);
    }

    /** "letter * (number of decimal digits of its value)" */
    private static void valuesWithOneDigitMore() {
        form(9, 1, 9, 1);
        form(9, 1, 10, 2);
        form(3, 3, 9, 0);
        form(3, 3, 10, 1);
        form(9, 9, 99, 0);
        form(9, 9, 100, 0);
        form(9, 9, 300, 0);
    }

    /** The form follows each change of a value or a setting, to and fro. */
    private static void valuesThatChange() {
        DimensionLines x = one(4, 3, 0, 14);
        int[] values = {13, 14, 3, 14, 4, 3, 4, 14};
        int[] forms = {1, 0, 2, 0, 1, 2, 1, 0};
        for (int i = 0; i < values.length; i++) {
            x.movePoint(1, values[i]);
            due("form behind a move to " + values[i], x.dimension(0, 7), forms[i]);
        }
        x.setArrow(4);
        due("form with a longer arrow", x.dimension(0, 7), 1);
        due("extent with a longer arrow", x.dimension(0, 9), 18);
        x.setLetter(3);
        due("form with a smaller letter", x.dimension(0, 7), 0);
        due("extent with a smaller letter", x.dimension(0, 9), 14);
        x.setLetter(8);
        due("form with a greater letter", x.dimension(0, 7), 2);
        x.undo();
        due("form behind undo", x.dimension(0, 7), 0);
    }

    private static void extent(int letter, int arrow, int from, int to, int begin, int end) {
        DimensionLines x = one(letter, arrow, from, to);
        CHECKS.dues("extent of " + from + " to " + to + ", letter " + letter + ", arrow " + arrow + ", 8 +",
                k -> x.dimension(0, 8 + k), begin, end);
    }

    private static void extentsOfEachForm() {
        extent(4, 3, 100, 114, 100, 114);
        extent(4, 3, 100, 113, 97, 116);
        extent(4, 3, 100, 104, 97, 107);
        extent(4, 3, 100, 103, 97, 110);
        extent(9, 9, 100, 136, 100, 136);
        extent(9, 9, 100, 135, 91, 144);
        extent(9, 9, 100, 118, 91, 127);
        extent(9, 9, 100, 117, 91, 144);
        extent(9, 9, 100, 108, 91, 126);
        extent(1, 1, 100, 103, 100, 103);
        extent(1, 1, 100, 102, 99, 103);
        extent(2, 1, 100, 101, 99, 104);
    }

    private static void extentsAtTheBorders() {
        extent(4, 3, 0, 300, 0, 300);
        extent(9, 9, 0, 300, 0, 300);
        extent(9, 9, 0, 1, -9, 19);
        extent(9, 9, 0, 35, -9, 44);
        extent(9, 9, 283, 300, 274, 327);
        extent(9, 9, 299, 300, 290, 318);
        extent(9, 9, 265, 300, 256, 309);
    }

    private static void lanes(String text, int... lanes) {
        lanes(text, Checks.drawn(text), lanes);
    }

    private static void lanes(String call, DimensionLines x, int... lanes) {
        CHECKS.dues(call + ": lane of", d -> x.dimension(d, 10), lanes);
        int highest = -1;
        for (int lane : lanes) {
            highest = Math.max(highest, lane);
        }
        due(call + ": lanes", x.count(3), highest + 1);
    }

    /** "(an extent contains both its bounds)": one number in common, and none. */
    private static void extentsWithOneNumberInCommon() {
        lanes("p0,30,60;0-1;1-2", 0, 1);
        lanes("p0,30,31,61;0-1;2-3", 0, 0);
        lanes("p0,30,31,61;2-3;0-1", 0, 0);
        lanes("p0,30,33,40;0-1;2-3", 1, 0);
        lanes("p0,30,34,41;0-1;2-3", 0, 0);
        lanes("p0,7,10,40;0-1;2-3", 0, 1);
        lanes("p0,7,11,41;0-1;2-3", 0, 0);
        lanes("p0,10,16,26;0-1;2-3", 0, 1);
        lanes("p0,10,17,27;0-1;2-3", 0, 0);
        lanes("p0,3,10,40;0-1;2-3", 0, 1);
        lanes("p0,3,11,41;0-1;2-3", 0, 0);
        lanes("p0,3,13,23;0-1;2-3", 0, 1);
        lanes("p0,3,14,24;0-1;2-3", 0, 0);
        lanes("p0,10,16,19;0-1;2-3", 1, 0);
        lanes("p0,10,17,20;0-1;2-3", 0, 0);
        lanes("p0,30,60,90;1-2;0-1;2-3", 1, 0, 0);
    }

    private static void extentsOfOtherLanes() {
        DimensionLines x = Checks.drawn("p0,100,130,200;0-2;1-3");
        lanes("overlap", x, 1, 0);
        x.setLeast(1, 1);
        lanes("overlap, the first one placed above", x, 0, 1);
        x.setLeast(0, 1);
        lanes("overlap, both from lane 1 on", x, 2, 1);
        x.setLeast(1, 2);
        lanes("overlap, there is room below", x, 1, 2);
        lanes("p0,50,60,110,120,170,180,230;0-1;2-3;4-5;6-7;1-2;5-6", 1, 1, 1, 1, 0, 0);
    }

    /** "one of its own dimensions": those of one unit may overlap. */
    private static void extentsWithinAUnit() {
        lanes("p0,100;0-1c1;0-1c1;0-1c1", 0, 0, 0);
        lanes("p0,50,100,150;0-2c4;1-3c4", 0, 0);
        lanes("p0,50,100,150;0-2c4;1-3c4;0-3c5;1-2c5", 0, 0, 1, 1);
        lanes("p0,30,60,90,120;0-1c1;3-4c1;1-2", 1, 1, 0);
        lanes("p0,40,80,120,160,200;0-1c1;4-5c1;1-2c2;3-4c2", 1, 1, 0, 0);
    }

    /** The first dimension lies in lane 5; what covers it lies in lane 6, and other ones below. */
    private static void aboveLaneFive(String text, int lane) {
        DimensionLines x = Checks.drawn(text);
        x.setLeast(0, 5);
        lanes(text + ", least lane 5", x, 5, lane);
    }

    /** "if the span of the other one lies in its own (they can also be equal)" */
    private static void spansThatJustCover() {
        aboveLaneFive("p10,50;0-1;0-1", 6);
        aboveLaneFive("p10,50,51;0-1;0-2", 6);
        aboveLaneFive("p9,10,50;1-2;0-2", 6);
        aboveLaneFive("p9,10,50,51;1-2;0-3", 6);
        aboveLaneFive("p10,11,50,52;0-2;1-3", 0);
        aboveLaneFive("p8,10,49,50;1-3;0-2", 0);
        aboveLaneFive("p10,50,90;0-1;1-2", 0);
        aboveLaneFive("p10,50,60,150;0-1;2-3", 0);
        aboveLaneFive("p10,50,51,150;0-1;1-3", 0);
        DimensionLines x = Checks.drawn("p10,11,19,21;0-2;1-3");
        x.setLetter(3);
        x.setLeast(0, 5);
        due("a wider extent, begins", x.dimension(1, 8), 8);
        due("a wider extent, ends", x.dimension(1, 9), 24);
        lanes("an extent that covers, but no span", x, 5, 0);
        x = Checks.drawn("p10,50;0-1;0-1;0-1");
        x.setLeast(1, 5);
        lanes("equal spans, the second one above", x, 0, 5, 6);
        x.setLeast(2, 3);
        lanes("equal spans, the third one above both", x, 0, 5, 6);
        x.setLeast(2, 9);
        lanes("equal spans, with room below", x, 0, 5, 9);
    }

    /** "The span of a unit goes from the smallest to the greatest position of the ends" */
    private static void spansOfChains() {
        lanes("p0,30,60,100,140,170;0-1c1;4-5c1;2-3", 1, 1, 0);
        lanes("p0,30,60,100,140,170;4-5c1;0-1c1;2-3", 1, 1, 0);
        DimensionLines x = Checks.drawn("p10,30,60,100,140;1-3;2-4c2;1-2c2");
        x.setLeast(0, 5);
        lanes("a chain that just covers at its beginning", x, 5, 6, 6);
        x = Checks.drawn("p10,30,60,100,140;2-4;1-2c2;3-4c2");
        x.setLeast(0, 5);
        lanes("a chain that just covers at its end", x, 5, 6, 6);
        x = Checks.drawn("p10,30,60,100,140;0-3;1-2c2;3-4c2");
        x.setLeast(0, 5);
        lanes("a chain that does not cover", x, 5, 0, 0);
        x = Checks.drawn("p10,40,70,100;0-3c1;1-2c1;1-2");
        x.setLeast(2, 7);
        lanes("a chain that covers by one of its dimensions", x, 8, 8, 7);
    }

    /** "from its least lane on"; "The least lane of a unit is the greatest one of those of its dimensions." */
    private static void lanesFromTheLeastLaneOn() {
        for (int least = 0; least <= 9; least++) {
            DimensionLines x = Checks.drawn("p0,40,80,120;0-1c1;1-2c1;2-3c1;0-3");
            x.setLeast(least % 3, least);
            lanes("least lane " + least + " of a chain", x, least, least, least, least + 1);
        }
        DimensionLines x = Checks.drawn("p0,40,80,120;0-1c1;1-2c1;2-3c1;0-3");
        x.setLeast(0, 2);
        x.setLeast(1, 9);
        x.setLeast(2, 8);
        x.setLeast(3, 9);
        lanes("the greatest one of several", x, 9, 9, 9, 10);
        x.setLeast(1, 0);
        lanes("without the greatest one", x, 8, 8, 8, 9);
    }

    /** "by ascending lengths of their spans, .. by the beginnings .., .. by the smallest numbers" */
    private static void unitsInOrder() {
        lanes("p0,50,99,150;0-2;1-3", 0, 1);
        lanes("p0,50,101,150;0-2;1-3", 1, 0);
        lanes("p0,10,13,24;0-2;1-3", 0, 1);
        lanes("p0,10,14,23;0-2;1-3", 1, 0);
        lanes("p0,50,100,150;0-2;1-3", 0, 1);
        lanes("p0,50,100,150;1-3;0-2", 1, 0);
        lanes("p0,100;0-1;0-1", 0, 1);
        lanes("p0,100,150,200;0-1;0-1;2-3", 0, 1, 0);
        lanes("p0,100,150,200;0-1;0-1;0-1;2-3;2-3;2-3", 0, 1, 2, 0, 1, 2);
        lanes("p0,100,150,200;0-1c1;0-1;0-1c2;2-3;0-1c1", 0, 1, 2, 0, 0);
        lanes("p0,50,100;0-1c1;0-2;1-2c1", 0, 1, 0);
        lanes("p0,50,100;0-2;0-1c1;1-2c1", 0, 1, 1);
        lanes("p0,50,100;0-1c2;0-1c1;1-2c1;1-2c2", 0, 1, 1, 0);
        lanes("p0,50,100;0-1c1;0-1c2;1-2c2;1-2c1", 0, 1, 1, 0);
        lanes("p0,50,100;0-1c5;0-2c1;1-2c5", 0, 1, 0);
        lanes("p0,60,100,160,170;1-4c1;0-2;2-3c1;0-3", 1, 0, 1, 2);
    }

    private static void unitsOfNoneAndOfAll() {
        due("units of none", new DimensionLines().count(2), 0);
        due("units of points alone", Checks.withPoints(1, 2, 3).count(2), 0);
        DimensionLines x = Checks.drawn("p0,1" + ";0-1".repeat(16));
        due("units of 16", x.count(2), 16);
        for (int d = 0; d < 16; d++) {
            x.setChain(d, 5);
            due("units with " + d + " + 1 in a chain", x.count(2), 16 - d);
        }
        due("lanes of one unit", x.count(3), 1);
        for (int chain = 1; chain <= 5; chain++) {
            x.setChain(chain, chain);
            due("units with chain " + chain, x.count(2), Math.min(chain, 4) + 1);
        }
        x.setChain(5, 0);
        x.setChain(6, 0);
        due("units without a chain are not one", x.count(2), 7);
    }

    private static void theHighestLane() {
        DimensionLines x = Checks.drawn("p0,300" + ";0-1".repeat(16));
        due("lanes of 16 the same", x.count(3), 16);
        x.setLeast(0, 9);
        CHECKS.dues("lane of", d -> x.dimension(d, 10),
                9, 10, 11, 12, 13, 14, 15, 16, 17, 18, 19, 20, 21, 22, 23, 24);
        due("lanes up to the highest one", x.count(3), 25);
        due("ifArrow up to the highest one", x.ifArrow(9), 25);
        due("at the highest one", x.at(24, 300), 15);
        due("at above it", x.at(25, 300), NONE);
        due("at below all", x.at(8, 300), NONE);
        due("the witness line", x.point(0, 2), 24);
        due("lanes without dimensions", Checks.withPoints(1, 2).count(3), 0);
    }

    private static void crossings(String call, DimensionLines x, int... crossings) {
        CHECKS.dues(call + ": crossings of point", p -> x.point(p, 3), crossings);
        int sum = 0;
        for (int number : crossings) {
            sum += number;
        }
        due(call + ": crossings", x.count(4), sum);
    }

    /** A dimension in lane 0, and another one in lane 5 whose ends are asked for. */
    private static DimensionLines inLanesZeroAndFive(String text) {
        DimensionLines x = Checks.drawn(text);
        x.setLeast(1, 5);
        lanes(text + ", least lane 5", x, 0, 5);
        return x;
    }

    /** "greater than that of the first end .. and smaller than that of its second end" */
    private static void witnessLinesAtEnds() {
        crossings("both at the ends", inLanesZeroAndFive("p10,200;0-1;0-1"), 0, 0);
        crossings("one outside each", inLanesZeroAndFive("p9,10,200,201;1-2;0-3"), 0, 0, 0, 0);
        crossings("begins inside", inLanesZeroAndFive("p10,11,200,250;0-2;1-3"), 0, 1, 0, 0);
        crossings("begins at the beginning", inLanesZeroAndFive("p10,200,250;0-1;0-2"), 0, 0, 0);
        crossings("ends inside", inLanesZeroAndFive("p0,10,199,200;1-3;0-2"), 0, 0, 1, 0);
        crossings("ends at the end", inLanesZeroAndFive("p0,10,200;1-2;0-2"), 0, 0, 0);
        crossings("begins at the end", inLanesZeroAndFive("p10,200,250;0-1;1-2"), 0, 0, 0);
        DimensionLines x = inLanesZeroAndFive("p10,12,14,60;0-2;1-3");
        due("the extent is wider", x.dimension(0, 8), 7);
        crossings("an end inside", x, 0, 1, 0, 0);
        crossings("within the extent, outside the ends", inLanesZeroAndFive("p8,10,14,16;1-2;0-3"), 0, 0, 0, 0);
    }

    /** "if this lies in a lane below that one" */
    private static void witnessLinesOfTheSameLane() {
        DimensionLines x = Checks.drawn("p0,50,100,150;0-2c1;1-3c1");
        crossings("the same lane", x, 0, 0, 0, 0);
        x = Checks.drawn("p0,50,100,150,200;0-3;1-2c1;3-4c1");
        lanes("a lane for each", x, 0, 1, 1);
        crossings("one lane above", x, 0, 1, 1, 0, 0);
        due("one lane above: crossed", x.dimension(0, 12), 2);
        x.setTolerance(0, 1, 1);
        crossings("one lane above, behind a change", x, 0, 1, 1, 0, 0);
        due("one lane above, behind a change: crossed", x.dimension(0, 12), 2);
        x.setLeast(0, 1);
        x.setChain(1, 0);
        lanes("one lane below", x, 1, 0, 0);
        crossings("one lane below", x, 0, 0, 0, 0, 0);
        x = Checks.drawn("p0,50,100,150,300;0-3;1-2;1-4");
        x.setLeast(2, 9);
        lanes("an end of two", x, 1, 0, 9);
        crossings("an end of two", x, 0, 1, 0, 0, 0);
        due("an end of two: up to", x.point(1, 2), 9);
        due("an end of two: crossed", x.dimension(0, 12), 1);
        due("an end of two: those of the point", x.dimension(1, 12), 0);
    }

    /** "(NONE if it is no end of a dimension)"; "(0 without one)" */
    private static void witnessLinesOfNoEnds() {
        DimensionLines x = Checks.drawn("p0,50,100;0-2;0-2");
        due("no end: up to", x.point(1, 2), NONE);
        due("no end: crossings", x.point(1, 3), 0);
        due("no end: dimensions", x.point(1, 1), 0);
        crossings("no end", x, 0, 0, 0);
        x.add(0, 1);
        x.setLeast(2, 2);
        due("an end: up to", x.point(1, 2), 2);
        x.drop(2);
        due("no end any more: up to", x.point(1, 2), NONE);
        due("no end any more: crossings", x.point(1, 3), 0);
        due("a witness line up to lane 0", Checks.drawn("p0,50;0-1").point(1, 2), 0);
        due("no end, the only point", Checks.withPoints(5).point(0, 2), NONE);
    }

    private static void propertiesOfPoints() {
        DimensionLines x = Checks.full();
        for (int wrong : new int[] {LEAST, -1, 12, GREATEST}) {
            due("point " + wrong, x.point(wrong, 0), BAD);
        }
        for (int wrong : new int[] {LEAST, -1, 5, 100, GREATEST}) {
            due("point of 12, " + wrong, x.point(11, wrong), BAD);
            due("no such point, " + wrong, x.point(12, wrong), BAD);
        }
        due("point without points", new DimensionLines().point(0, 0), BAD);
        int[] dimensions = {3, 2, 4, 3, 2, 3, 2, 2, 3, 3, 3, 2};
        CHECKS.dues("dimensions of point", p -> x.point(p, 1), dimensions);
        Reference r = asFull();
        for (int what = 0; what <= 4; what++) {
            for (int p = 0; p < 12; p++) {
                due("full: point " + p + ", " + what, x.point(p, what), r.point(p, what));
            }
        }
    }

    private static Reference asFull() {
        Reference r = new Reference();
        for (int position : new int[] {0, 20, 45, 70, 100, 120, 150, 170, 200, 230, 260, 300}) {
            r.addPoint(position);
        }
        int[] from = {0, 1, 2, 3, 4, 5, 6, 7, 8, 9, 10, 0, 2, 0, 8, 3};
        int[] to = {1, 2, 3, 4, 5, 6, 7, 8, 9, 10, 11, 2, 5, 11, 9, 10};
        for (int d = 0; d < 16; d++) {
            r.add(from[d], to[d]);
            r.setTolerance(d, d % 4, d % 3);
            r.setChain(d, d < 3 ? 1 : d == 6 || d == 8 ? 5 : 0);
        }
        r.setLeast(15, 9);
        r.setLetter(6);
        return r;
    }

    /** "(groups are numbered from 0 by their smallest points)" */
    private static void groupsOfPoints() {
        DimensionLines alone = Checks.withPoints(0, 1, 2, 3, 4, 5, 6, 7, 8, 9, 10, 300);
        CHECKS.dues("12 alone: group of", p -> alone.point(p, 4), 0, 1, 2, 3, 4, 5, 6, 7, 8, 9, 10, 11);
        due("12 alone: groups", alone.count(5), 12);
        alone.add(0, 11);
        CHECKS.dues("two bound: group of", p -> alone.point(p, 4), 0, 1, 2, 3, 4, 5, 6, 7, 8, 9, 10, 0);
        due("two bound: groups", alone.count(5), 11);
        DimensionLines x = Checks.drawn("p0,10,20,30,40,50,60;1-4;3-5;2-6;4-6");
        CHECKS.dues("group of", p -> x.point(p, 4), 0, 1, 1, 2, 1, 2, 1);
        due("groups", x.count(5), 3);
        due("groups of none", new DimensionLines().count(5), 0);
        due("groups of one", Checks.withPoints(7).count(5), 1);
        due("groups of all", Checks.full().count(5), 1);
    }

    private static void propertiesOfDimensions() {
        DimensionLines x = Checks.full();
        for (int wrong : new int[] {LEAST, -1, 16, GREATEST}) {
            due("dimension " + wrong, x.dimension(wrong, 0), BAD);
        }
        for (int wrong : new int[] {LEAST, -1, 13, 100, GREATEST}) {
            due("dimension of 16, " + wrong, x.dimension(15, wrong), BAD);
            due("no such dimension, " + wrong, x.dimension(16, wrong), BAD);
        }
        due("dimension without dimensions", Checks.withPoints(0, 1).dimension(0, 0), BAD);
        Reference r = asFull();
        for (int d = 0; d < 16; d++) {
            for (int what = 0; what <= 12; what++) {
                due("full: dimension " + d + ", " + what, x.dimension(d, what), r.dimension(d, what));
            }
        }
    }

    /** "lane: 0 or more"; "position: -9 to 400" */
    private static void atEachBorder() {
        DimensionLines x = Checks.drawn("p0,8,260,300;0-1;2-3");
        x.setArrow(9);
        x.setLetter(9);
        for (int wrong : new int[] {LEAST, -100, -10, 401, 402, GREATEST}) {
            due("at, position " + wrong, x.at(0, wrong), BAD);
            due("at, lane and position " + wrong, x.at(-1, wrong), BAD);
        }
        for (int wrong : new int[] {LEAST, -2, -1}) {
            due("at, lane " + wrong, x.at(wrong, 0), BAD);
        }
        due("at -9, the least extent", x.at(0, -9), 0);
        due("at its end", x.at(0, 26), 0);
        due("at behind its end", x.at(0, 27), NONE);
        due("at before the next", x.at(0, 259), NONE);
        due("at its beginning", x.at(0, 260), 1);
        due("at the last point", x.at(0, 300), 1);
        due("at behind the last point", x.at(0, 301), NONE);
        due("at 400", x.at(0, 400), NONE);
        due("at, lane 1", x.at(1, 0), NONE);
        due("at, the greatest lane", x.at(GREATEST, 0), NONE);
        x.movePoint(2, 283);
        due("at before an extent", x.at(0, 273), NONE);
        due("at its beginning then", x.at(0, 274), 1);
        due("at behind the last point then", x.at(0, 327), 1);
        due("at behind all", x.at(0, 328), NONE);
        x.movePoint(0, 1);
        due("at -9, one before the least extent", x.at(0, -9), NONE);
        due("at -8", x.at(0, -8), 0);
        DimensionLines none = new DimensionLines();
        for (int position : new int[] {-9, 0, 300, 400}) {
            due("at without dimensions", none.at(0, position), NONE);
            due("at without dimensions, the greatest lane", none.at(GREATEST, position), NONE);
            due("at without dimensions, lane -1", none.at(-1, position), BAD);
        }
        due("at without dimensions, -10", none.at(0, -10), BAD);
        due("at without dimensions, 401", none.at(GREATEST, 401), BAD);
    }

    /** "of several the smallest one" */
    private static void atTheSmallestOfSeveral() {
        DimensionLines x = Checks.drawn("p0,40,80,120;1-3c1;0-2c1;2-3c1;0-3");
        due("at one of two", x.at(0, 39), 1);
        due("at the first number of two", x.at(0, 40), 0);
        due("at the last number of two", x.at(0, 80), 0);
        due("at three", x.at(0, 81), 0);
        due("at another lane", x.at(1, 40), 3);
        x.drop(0);
        due("at the smallest of those left", x.at(0, 80), 0);
        due("at the other one", x.at(0, 81), 1);
    }

    /** "length: 1 to 9"; "Nothing changes."; "(as count(3))" */
    private static void ifArrowAtEachBorder() {
        DimensionLines x = Checks.drawn("p0,20,26,46;0-1;2-3");
        for (int wrong : new int[] {LEAST, -1, 0, 10, 256 + 3, GREATEST}) {
            due("ifArrow " + wrong, x.ifArrow(wrong), BAD);
            due("ifArrow without points " + wrong, new DimensionLines().ifArrow(wrong), BAD);
        }
        for (int length = 1; length <= 9; length++) {
            int lanes = length < 7 ? 1 : 2;
            due("ifArrow " + length, x.ifArrow(length), lanes);
            due("the arrow stays", x.count(8), 3);
            due("the lanes stay", x.count(3), 1);
            due("the extent stays", x.dimension(0, 9), 20);
            due("ifArrow without dimensions", Checks.withPoints(5).ifArrow(length), 0);
        }
        x.setArrow(9);
        due("lanes with arrows of 9", x.count(3), 2);
        due("ifArrow 6 with arrows of 9", x.ifArrow(6), 1);
        due("ifArrow 9 with arrows of 9", x.ifArrow(9), 2);
    }
}
