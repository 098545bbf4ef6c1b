import java.util.function.IntUnaryOperator;

/** Counts the answers of a test that are not as due, and ends it with exit code 1 if there are any. */
final class Checks {
    static final String TWELVE_POINTS = "p0,1,2,3,4,5,6,7,8,9,10,11";
    /** The longest text that is a drawing: 80 characters. */
    static final String EIGHTY = "p0,1" + ";0-1".repeat(12) + ";0-1+20".repeat(4);

    private final String name;
    private int made = 0;
    private int wrong = 0;

    Checks(String name) {
        this.name = name;
        Thread guard = new Thread(this::endWhenNoCallEnds);
        guard.setDaemon(true);
        guard.start();
    }

    /** A call that never ends has to fail a test, not to hold it up. */
    private void endWhenNoCallEnds() {
        try {
            Thread.sleep(600_000);
        } catch (InterruptedException e) {
            return;
        }
        System.out.println(name + ": has not ended in ten minutes");
        Runtime.getRuntime().halt(1);
    }

    void due(String call, long got, long want) {
        made++;
        if (got != want) {
            wrong++;
            System.out.println(name + ": " + call + " answered " + got + ", due is " + want);
        }
    }

    void holds(String what, boolean got) {
        due(what, got ? 1 : 0, 1);
    }

    void finish() {
        System.out.println(name + ": " + (made - wrong) + " of " + made + " answers are as due");
        if (wrong != 0 || made == 0) {
            System.exit(1);
        }
    }

    /** The answers of a property for the numbers 0, 1, .. */
    void dues(String call, IntUnaryOperator asked, int... wants) {
        for (int i = 0; i < wants.length; i++) {
            due(call + " " + i, asked.applyAsInt(i), wants[i]);
        }
    }

    /**
     * Compares all that can be seen of two objects: their drawings, texts and remembered states.
     * Both are used up by that. faultKind() is left to the caller, as load() may change it.
     */
    void sameWhole(String call, DimensionLines x, DimensionLines twin) {
        due(call + ": digest", x.digest(), twin.digest());
        for (int left = twin.undo(); left >= 0; left = twin.undo()) {
            due(call + ": states left by undo", x.undo(), left);
            due(call + ": digest behind undo, " + left + " left", x.digest(), twin.digest());
        }
        due(call + ": no more undo", x.undo(), DimensionLines.STATE);
        due(call + ": load", x.load(), twin.load());
        due(call + ": faultKind behind load", x.faultKind(), twin.faultKind());
        due(call + ": digest behind load", x.digest(), twin.digest());
        due(call + ": clearText", x.clearText(), twin.clearText());
    }

    /** Types a text behind an emptied buffer. */
    static void typeText(DimensionLines x, String text) {
        x.clearText();
        for (int i = 0; i < text.length(); i++) {
            x.type(text.charAt(i));
        }
    }

    /** A new drawing, read from a text. */
    static DimensionLines drawn(String text) {
        DimensionLines x = new DimensionLines();
        typeText(x, text);
        int answer = x.load();
        if (answer < 0) {
            throw new IllegalStateException(text + " answered " + answer);
        }
        return x;
    }

    /** A new drawing with points at these positions. */
    static DimensionLines withPoints(int... positions) {
        DimensionLines x = new DimensionLines();
        for (int position : positions) {
            x.addPoint(position);
        }
        return x;
    }

    /** 12 points and 16 dimensions, 8 remembered states, and a text of 80 characters that is a drawing. */
    static DimensionLines full() {
        DimensionLines x = withPoints(0, 20, 45, 70, 100, 120, 150, 170, 200, 230, 260, 300);
        for (int d = 0; d < 11; d++) {
            x.add(d, d + 1);
        }
        x.add(0, 2);
        x.add(2, 5);
        x.add(0, 11);
        x.add(8, 9);
        x.add(3, 10);
        for (int d = 0; d < 16; d++) {
            x.setTolerance(d, d % 4, d % 3);
            x.setChain(d, d < 3 ? 1 : d == 6 || d == 8 ? 5 : 0);
        }
        x.setLeast(15, 9);
        x.setLetter(6);
        typeText(x, EIGHTY);
        return x;
    }
}
