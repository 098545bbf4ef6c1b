/** "Text", promises 2 to 5: an empty buffer and a full one, each place of a drawing, each fault. */
public final class TextBoundsTest {
    private static final Checks CHECKS = new Checks("TextBoundsTest");
    private static final int BAD = DimensionLines.BAD;
    private static final int FULL = DimensionLines.FULL;
    private static final String TWELVE = Checks.TWELVE_POINTS;
    private static final String FIFTEEN = "p0,1" + ";0-1".repeat(15);
    private static final String DIGITS = "0123456789";

    public static void main(String[] args) {
        codesOfCharacters();
        anEmptyBuffer();
        aBufferWithEightyCharacters();
        charactersOfEachPlace();
        noSpaces();
        theEndWhereSomethingMustFollow();
        oneToTwelvePositions();
        noneToSixteenDimensions();
        numbersOfDigits();
        rangesOfNumbers();
        ascendingPositions();
        endsThatArePoints();
        secondEndsGreaterThanFirstOnes();
        tolerancesAndChains();
        theSmallestIndexCounts();
        aDigitTooManyHidesTheNumber();
        loadReplacesEverythingButSettings();
        faultKindOfTheLatestLoad();
        everyCharacterAtEveryPlace();
        CHECKS.finish();
    }

    private static void due(String call, long got, long want) {
        CHECKS.due(call, got, want);
    }

    private static DimensionLines typed(String text) {
        DimensionLines x = new DimensionLines();
        Checks.typeText(x, text);
        due("characters of '" + text + "'", x.count(9), text.length());
        return x;
    }

    private static void good(String text, int points, int dimensions) {
        DimensionLines x = typed(text);
        due("load '" + text + "'", x.load(), dimensions);
        due("faultKind of '" + text + "'", x.faultKind(), 0);
        due("points of '" + text + "'", x.count(0), points);
        due("dimensions of '" + text + "'", x.count(1), dimensions);
        due("the buffer stays '" + text + "'", x.count(9), text.length());
    }

    private static void fault(String text, int kind, int index) {
        DimensionLines x = typed(text);
        due("load '" + text + "'", x.load(), -10 - index);
        due("faultKind of '" + text + "'", x.faultKind(), kind);
        due("no points of '" + text + "'", x.count(0), 0);
        due("no state recorded by '" + text + "'", x.count(10), 0);
        due("the buffer stays '" + text + "'", x.count(9), text.length());
    }

    /** "code: its code, 32 to 126" */
    private static void codesOfCharacters() {
        DimensionLines x = new DimensionLines();
        for (int code : new int[] {Integer.MIN_VALUE, -1, 0, 10, 31, 127, 128, 255, 256 + 48, 65536 + 48,
                Integer.MAX_VALUE}) {
            due("type " + code, x.type(code), BAD);
            due("characters behind type " + code, x.count(9), 0);
        }
        for (int code = 32; code <= 126; code++) {
            x.clearText();
            due("type " + code, x.type(code), 1);
        }
    }

    private static void anEmptyBuffer() {
        DimensionLines x = new DimensionLines();
        due("characters of a new object", x.count(9), 0);
        due("clearText of a new object", x.clearText(), 0);
        due("load of an empty buffer", x.load(), -10);
        due("its faultKind", x.faultKind(), 1);
        due("type into an empty buffer", x.type('p'), 1);
        due("clearText of one character", x.clearText(), 1);
        due("clearText of no character", x.clearText(), 0);
        due("load of an emptied buffer", x.load(), -10);
        due("type into an emptied buffer", x.type('p'), 1);
        due("load of what is typed then", x.load(), -11);
    }

    /** "The text buffer has at most 80 characters"; "FULL if it has 80" */
    private static void aBufferWithEightyCharacters() {
        due("characters that the test has", Checks.EIGHTY.length(), 80);
        good(Checks.EIGHTY, 2, 16);
        fault(Checks.EIGHTY.substring(0, 79) + "x", 1, 79);
        fault(Checks.EIGHTY.substring(0, 78) + "21", 2, 78);
        fault(Checks.EIGHTY.substring(0, 79) + "-", 1, 80);
        fault("p0," + "1".repeat(77), 1, 6);
        DimensionLines x = typed(Checks.EIGHTY.substring(0, 79));
        due("the 80th character", x.type('0'), 80);
        due("the 81st character", x.type(';'), FULL);
        due("the 81st character again", x.type(32), FULL);
        due("the 81st character, the greatest code", x.type(126), FULL);
        due("80 characters stay", x.count(9), 80);
        due("load, nothing is appended", x.load(), 16);
        due("the last number", x.dimension(15, 4), 20);
        due("load again, the text stays", x.load(), 16);
        due("clearText of 80", x.clearText(), 80);
        due("type behind it", x.type('p'), 1);
    }

    /** Which characters can stand behind a text: all the others are faults at their index. */
    private static void follows(String text, String allowed) {
        for (char sign = 32; sign <= 126; sign++) {
            DimensionLines x = typed(text + sign);
            boolean thereIsAFault = x.load() == -10 - text.length();
            boolean misplaced = thereIsAFault && x.faultKind() == 1;
            due("'" + sign + "' is misplaced behind '" + text + "'", misplaced ? 1 : 0,
                    allowed.indexOf(sign) < 0 ? 1 : 0);
        }
    }

    private static void charactersOfEachPlace() {
        follows("", "p");
        follows("p", DIGITS);
        follows("p1", DIGITS + ",;");
        follows("p12", DIGITS + ",;");
        follows("p123", ",;");
        follows("p1,", DIGITS);
        follows("p1,2", DIGITS + ",;");
        follows("p1,2;", DIGITS);
        follows("p1,2;0", "-");
        follows("p1,2;0-", DIGITS);
        follows("p1,2;0-1", "+-c;");
        follows("p1,2;0-1+", DIGITS);
        follows("p1,2;0-1+1", DIGITS + "-c;");
        follows("p1,2;0-1+12", "-c;");
        follows("p1,2;0-1-", DIGITS);
        follows("p1,2;0-1-1", DIGITS + "c;");
        follows("p1,2;0-1-12", "c;");
        follows("p1,2;0-1+1-", DIGITS);
        follows("p1,2;0-1+1-1", DIGITS + "c;");
        follows("p1,2;0-1+1-12", "c;");
        follows("p1,2;0-1c", DIGITS);
        follows("p1,2;0-1c1", ";");
        follows("p1,2;0-1+1-1c1", ";");
        follows(TWELVE.substring(0, TWELVE.length() - 3), DIGITS + ",;");
        follows("p0,1,2,3,4,5,6,7,8,9,10,120", ";");
        follows(TWELVE, DIGITS + ";");
        follows(FIFTEEN, "+-c;");
        follows(FIFTEEN + ";0-1", "+-c");
        follows(FIFTEEN + ";0-1+1", DIGITS + "-c");
        follows(FIFTEEN + ";0-1-12", "c");
        follows(FIFTEEN + ";0-1c1", "");
    }

    /** "There are no spaces." */
    private static void noSpaces() {
        String text = "p1,20;0-1+1-2c3";
        for (int i = 0; i <= text.length(); i++) {
            fault(text.substring(0, i) + " " + text.substring(i), 1, i);
        }
    }

    /** "or the end of the text where something must follow (the length of the text)" */
    private static void theEndWhereSomethingMustFollow() {
        for (String text : new String[] {"", "p", "p1,", "p1,2,", "p1;", "p1,2;", "p1,2;0", "p1,2;0-", "p1,2;0-1+",
            "p1,2;0-1-", "p1,2;0-1+1-", "p1,2;0-1c", "p1,2;0-1+1c", "p1,2;0-1-1c", "p1,2;0-1;", "p1,2;0-1;0"}) {
            fault(text, 1, text.length());
        }
        fault(TWELVE.substring(0, TWELVE.length() - 2), 1, TWELVE.length() - 2);
        fault(FIFTEEN + ";", 1, 65);
        fault(FIFTEEN + ";0-1+", 1, 69);
    }

    /** "there are 1 to 12 of them"; "a comma behind the 12th position" */
    private static void oneToTwelvePositions() {
        fault("p", 1, 1);
        fault("p;", 1, 1);
        good("p5", 1, 0);
        good("p5,6", 2, 0);
        good(TWELVE.substring(0, TWELVE.length() - 3), 11, 0);
        good(TWELVE, 12, 0);
        good(TWELVE + ";0-9", 12, 1);
        fault(TWELVE + ",", 1, TWELVE.length());
        fault(TWELVE + ",12", 1, TWELVE.length());
        fault(TWELVE + ",11", 1, TWELVE.length());
        fault(TWELVE + ",12;9-9", 1, TWELVE.length());
        good("p10,11,12,13,14,15,16,17,18,19,20,300", 12, 0);
    }

    /** "any number of dimensions"; "a semicolon behind the 16th dimension" */
    private static void noneToSixteenDimensions() {
        good("p0,1", 2, 0);
        good("p0,1;0-1", 2, 1);
        good(FIFTEEN, 2, 15);
        good(FIFTEEN + ";0-1", 2, 16);
        good(FIFTEEN + ";0-1+20-20c5", 2, 16);
        fault(FIFTEEN + ";0-1;", 1, 68);
        fault(FIFTEEN + ";0-1;0-1", 1, 68);
        fault(FIFTEEN + ";0-1;1-1", 1, 68);
        fault(FIFTEEN + ";0-1c5;", 1, 70);
        fault(FIFTEEN + ";0-1c6;", 2, 69);
        fault(FIFTEEN + ";1-1;", 2, 67);
    }

    private static void position(String text, int point, int position) {
        due("position " + point + " of '" + text + "'", Checks.drawn(text).point(point, 0), position);
    }

    /** "Numbers have 1 to 3 digits, any (as 05), tolerances 1 or 2." */
    private static void numbersOfDigits() {
        position("p0", 0, 0);
        position("p00", 0, 0);
        position("p000", 0, 0);
        position("p5,06,007", 1, 6);
        position("p5,06,007", 2, 7);
        position("p010,020", 1, 20);
        position("p100,299,300", 2, 300);
        fault("p0000", 1, 4);
        fault("p0005", 1, 4);
        fault("p5,0006", 1, 6);
        fault("p5,6000", 1, 6);
        DimensionLines x = Checks.drawn("p0,1;0-1+0-00;0-1+05-9;0-1+9-05;0-1+10-20");
        int[] minus = {0, 9, 5, 20};
        int[] plus = {0, 5, 9, 10};
        CHECKS.dues("minus of", d -> x.dimension(d, 3), minus);
        CHECKS.dues("plus of", d -> x.dimension(d, 4), plus);
        fault("p0,1;0-1+000", 1, 11);
        fault("p0,1;0-1-000", 1, 11);
        fault("p0,1;00-1", 1, 6);
        fault("p0,1;0-01", 1, 8);
        fault("p0,1;0-1c01", 1, 10);
    }

    /** "2 a number that is out of its range .. (the index of its first digit)" */
    private static void rangesOfNumbers() {
        good("p0", 1, 0);
        good("p300", 1, 0);
        fault("p301", 2, 1);
        fault("p999", 2, 1);
        fault("p5,301", 2, 3);
        fault("p5,301;", 2, 3);
        fault("p5,301,302", 2, 3);
        good("p0,1;0-1+20", 2, 1);
        fault("p0,1;0-1+21", 2, 9);
        fault("p0,1;0-1+99", 2, 9);
        fault("p0,1;0-1+21;", 2, 9);
        good("p0,1;0-1-20", 2, 1);
        fault("p0,1;0-1-21", 2, 9);
        fault("p0,1;0-1+20-21", 2, 12);
        fault("p0,1;0-1-21c1", 2, 9);
        good("p0,1;0-1c0", 2, 1);
        good("p0,1;0-1c5", 2, 1);
        fault("p0,1;0-1c6", 2, 9);
        fault("p0,1;0-1c9", 2, 9);
        fault("p0,1;0-1+1-1c6;0-1", 2, 13);
    }

    /** "a position that is not greater than the one before it" */
    private static void ascendingPositions() {
        good("p0,1", 2, 0);
        good("p299,300", 2, 0);
        fault("p0,0", 2, 3);
        fault("p300,300", 2, 5);
        fault("p9,8", 2, 3);
        fault("p9,008", 2, 3);
        fault("p9,10,9", 2, 6);
        fault("p9,10,10,11", 2, 6);
        fault("p0,1,2,3,4,5,6,7,8,9,10,10", 2, 24);
        fault("p9,9;", 2, 3);
        fault("p9,9,", 2, 3);
    }

    /** "an end that is no point"; "the numbers of points 0 to 9" */
    private static void endsThatArePoints() {
        fault("p7;0-0", 2, 5);
        fault("p7;0-1", 2, 5);
        fault("p7;1-0", 2, 3);
        good("p7,8;0-1", 2, 1);
        fault("p7,8;0-2", 2, 7);
        fault("p7,8;2-3", 2, 5);
        fault("p7,8;2-1", 2, 5);
        String ten = "p0,1,2,3,4,5,6,7,8,9";
        good(ten + ";8-9;0-9", 10, 2);
        String nine = "p0,1,2,3,4,5,6,7,8";
        good(nine + ";7-8", 9, 1);
        fault(nine + ";7-9", 2, nine.length() + 3);
        fault(nine + ";9-8", 2, nine.length() + 1);
        fault(TWELVE + ";0-10", 1, TWELVE.length() + 4);
        fault(TWELVE + ";10-11", 1, TWELVE.length() + 2);
        fault("p7,8;2", 2, 5);
        fault("p7,8;2;", 2, 5);
        fault("p7,8;0-2;", 2, 7);
        fault("p7,8;0-2+1", 2, 7);
    }

    /** "a second end that is not greater than the first one" */
    private static void secondEndsGreaterThanFirstOnes() {
        good("p7,8,9;1-2", 3, 1);
        fault("p7,8,9;1-1", 2, 9);
        fault("p7,8,9;1-0", 2, 9);
        fault("p7,8,9;2-1", 2, 9);
        fault("p7,8,9;2-2c1", 2, 9);
        fault("p7,8,9;0-0", 2, 9);
        fault("p7,8,9;0-2;2-0;9-9", 2, 13);
    }

    /** "perhaps (also without a plus) - and its minus"; "(also without both) c and its chain" */
    private static void tolerancesAndChains() {
        String text = "p0,1;0-1;0-1+3;0-1-4;0-1+5-6;0-1c1;0-1+7c2;0-1-8c3;0-1+9-10c4;0-1c0";
        DimensionLines x = Checks.drawn(text);
        CHECKS.dues("minus of", d -> x.dimension(d, 3), 0, 0, 4, 6, 0, 0, 8, 10, 0);
        CHECKS.dues("plus of", d -> x.dimension(d, 4), 0, 3, 0, 5, 0, 7, 0, 9, 0);
        CHECKS.dues("chain of", d -> x.dimension(d, 5), 0, 0, 0, 0, 1, 2, 3, 4, 0);
        CHECKS.dues("least lane of", d -> x.dimension(d, 6), 0, 0, 0, 0, 0, 0, 0, 0, 0);
        fault("p0,1;0-1-1+1", 1, 10);
        fault("p0,1;0-1c1+1", 1, 10);
        fault("p0,1;0-1c1-1", 1, 10);
        fault("p0,1;0-1+1+1", 1, 10);
        fault("p0,1;0-1-1-1", 1, 10);
        fault("p0,1;0-1c1c1", 1, 10);
    }

    /** "Of several faults the one with the smallest index counts" */
    private static void theSmallestIndexCounts() {
        fault("p301x", 2, 1);
        fault("x301", 1, 0);
        fault("p5,5,5", 2, 3);
        fault("p5,4,3;9-9x", 2, 3);
        fault("p301,302;5-5", 2, 1);
        fault("p0,1;0x1;9-9", 1, 6);
        fault("p0,1;9x9", 2, 5);
        fault("p0,1;0-9x", 2, 7);
        fault("p0,1;9", 2, 5);
        fault("p0,1;1-0", 2, 7);
        fault("p0,1;9-0", 2, 5);
        fault("p0,1;0-1+21-21c6", 2, 9);
        fault("p0,1;0-1+20-21c6", 2, 12);
        fault("p0,1;0-1+20-20c6;9", 2, 15);
        fault("p0,1;0-1+x-21", 1, 9);
        fault("p0,1;0-1+21x", 2, 9);
        fault("p0,1;0-1c6x", 2, 9);
        fault("p0,1,;9-9", 1, 5);
        fault("p5,4,", 2, 3);
    }

    /** "so that there is none where a digit too many follows" */
    private static void aDigitTooManyHidesTheNumber() {
        fault("p9999", 1, 4);
        fault("p3011", 1, 4);
        fault("p9,0001", 1, 6);
        fault("p9,9999", 1, 6);
        fault("p0,1;99-1", 1, 6);
        fault("p0,1;1-00", 1, 8);
        fault("p0,1;0-99", 1, 8);
        fault("p0,1;0-1+999", 1, 11);
        fault("p0,1;0-1-999", 1, 11);
        fault("p0,1;0-1c66", 1, 10);
    }

    /** "in place of the present one; least lanes are 0, settings stay" */
    private static void loadReplacesEverythingButSettings() {
        DimensionLines x = Checks.full();
        x.setArrow(9);
        Checks.typeText(x, "p3,4,5;0-1;1-2");
        due("load", x.load(), 2);
        CHECKS.dues("count", x::count, 3, 2, 2, 2, 0, 1, 0, 6, 9, 14, 8);
        CHECKS.dues("position", p -> x.point(p, 0), 3, 4, 5);
        for (int d = 0; d < 2; d++) {
            int number = d;
            CHECKS.dues("dimension " + d, what -> x.dimension(number, what), d, d + 1, 1, 0, 0, 0, 0);
        }
        due("no third dimension", x.dimension(2, 0), BAD);
        due("no fourth point", x.point(3, 0), BAD);
        x.setLeast(1, 9);
        due("load once more", x.load(), 2);
        due("least lanes are 0", x.dimension(1, 6), 0);
        x.clearText();
        due("load of nothing", x.load(), -10);
        due("the drawing stays", x.count(1), 2);
    }

    /** "0 if it found none, or there was no such call" */
    private static void faultKindOfTheLatestLoad() {
        DimensionLines x = new DimensionLines();
        due("faultKind without load", x.faultKind(), 0);
        Checks.typeText(x, "p301");
        due("faultKind before load", x.faultKind(), 0);
        x.load();
        due("faultKind 2", x.faultKind(), 2);
        x.clearText();
        due("faultKind behind clearText", x.faultKind(), 2);
        x.type('p');
        due("faultKind behind type", x.faultKind(), 2);
        x.load();
        due("faultKind 1", x.faultKind(), 1);
        x.addPoint(3);
        x.addPoint(3);
        due("faultKind behind a change", x.faultKind(), 1);
        x.type('7');
        x.load();
        due("faultKind 0", x.faultKind(), 0);
        x.type('x');
        due("faultKind 0 stays", x.faultKind(), 0);
        x.load();
        due("faultKind 1 again", x.faultKind(), 1);
        due("faultKind of another object", new DimensionLines().faultKind(), 0);
    }

    /** Every character at every place of some texts, compared with the Reference. */
    private static void everyCharacterAtEveryPlace() {
        for (String text : new String[] {"p10,200;0-1+12-20c5;0-1", TWELVE + ";8-9", FIFTEEN + ";0-1c1"}) {
            for (int i = text.startsWith("p0,1;") ? 60 : 0; i < text.length(); i++) {
                for (char sign = 32; sign <= 126; sign++) {
                    asReference(text.substring(0, i) + sign + text.substring(i + 1));
                }
                asReference(text.substring(0, i));
                asReference(text.substring(0, i) + text.substring(i + 1));
            }
        }
    }

    private static void asReference(String text) {
        DimensionLines x = new DimensionLines();
        Reference r = new Reference();
        for (int i = 0; i < text.length(); i++) {
            x.type(text.charAt(i));
            r.type(text.charAt(i));
        }
        due("load '" + text + "'", x.load(), r.load());
        due("faultKind of '" + text + "'", x.faultKind(), r.faultKind());
    }
}
