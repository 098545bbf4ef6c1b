/** Counts the answers of a test that are not as due, and ends it with exit code 1 if there are any. */
final class Checks {
    private final String name;
    private int made = 0;
    private int wrong = 0;

    Checks(String name) {
        this.name = name;
    }

    void due(String call, long got, long want) {
        made++;
        if (got != want) {
            wrong++;
            System.out.println(name + ": " + call + " answered " + got + ", due is " + want);
        }
    }

    void holds(String what, boolean got) {
        due(what, got ? 1 : 0, 1);
    }

    void finish() {
        System.out.println(name + ": " + (made - wrong) + " of " + made + " answers are as due");
        if (wrong != 0 || made == 0) {
            System.exit(1);
        }
    }

    /** Types a text behind an emptied buffer. */
    static void typeText(DimensionLines x, String text) {
        x.clearText();
        for (int i = 0; i < text.length(); i++) {
            x.type(text.charAt(i));
        }
    }

    /** A new drawing, read from a text. */
    static DimensionLines drawn(String text) {
        DimensionLines x = new DimensionLines();
        typeText(x, text);
        int answer = x.load();
        if (answer < 0) {
            throw new IllegalStateException(text + " answered " + answer);
        }
        return x;
    }
}
