/**
 * Long runs of calls, made by a fixed sequence of numbers, on the program and on the Reference:
 * every answer is compared, and now and then the digests.
 */
public final class ReferenceTest {
    private static final int RUNS = 240;
    private static final int TEXTS = 6000;
    /** What an object answers behind its 512th call is free, and reading a text takes up to 87 calls. */
    private static final int LAST_CALLS = 512 - 90;

    private final Checks checks = new Checks("ReferenceTest");
    private long seed;
    private DimensionLines x;
    private Reference r;
    private int calls;

    public static void main(String[] args) {
        ReferenceTest test = new ReferenceTest();
        int runs = args.length > 0 ? Integer.parseInt(args[0]) : RUNS;
        for (int run = 0; run < runs; run++) {
            test.run(run);
        }
        test.texts(args.length > 1 ? Integer.parseInt(args[1]) : TEXTS);
        test.checks.finish();
    }

    private int below(int bound) {
        seed = seed * 6364136223846793005L + 1442695040888963407L;
        return (int) ((seed >>> 33) % bound);
    }

    private int around(int least, int greatest) {
        return below(20) == 0 ? (below(2) == 0 ? least - 1 - below(3) : greatest + 1 + below(3))
                : least + below(greatest - least + 1);
    }

    private int somePoint() {
        return around(0, Math.max(0, r.count(0) - 1));
    }

    private int someDimension() {
        return around(0, Math.max(0, r.count(1) - 1));
    }

    private void makeNew() {
        x = new DimensionLines();
        r = new Reference();
        calls = 0;
    }

    private void run(int number) {
        seed = number;
        makeNew();
        int range = number % 3 == 0 ? 300 : number % 3 == 1 ? 40 : 120;
        for (int call = 0; calls < LAST_CALLS; call++) {
            String name = "run " + number + " call " + call;
            if (below(3) > 0) {
                change(name, range);
            } else {
                question(name);
            }
            if (call % 16 == 15) {
                same(name + " digest", x.digest(), r.digest());
            }
        }
    }

    /** Called with each answer of x. */
    private void same(String call, long got, long want) {
        calls++;
        checks.due(call, got, want);
    }

    private void change(String name, int range) {
        int kind = below(40);
        int a = somePoint();
        int b = somePoint();
        int d = someDimension();
        int position = around(0, range);
        int chain = around(0, 5);
        int small = around(0, 9);
        int minus = around(0, 20);
        int plus = around(0, 20);
        if (kind < 7) same(name + " addPoint " + position, x.addPoint(position), r.addPoint(position));
        else if (kind < 10) same(name + " movePoint", x.movePoint(a, position), r.movePoint(a, position));
        else if (kind < 11) same(name + " dropPoint", x.dropPoint(a), r.dropPoint(a));
        else if (kind < 20) same(name + " add", x.add(a, b), r.add(a, b));
        else if (kind < 21) same(name + " drop", x.drop(d), r.drop(d));
        else if (kind < 26) same(name + " setTolerance", x.setTolerance(d, minus, plus), r.setTolerance(d, minus, plus));
        else if (kind < 31) same(name + " setChain", x.setChain(d, chain), r.setChain(d, chain));
        else if (kind < 33) same(name + " setLeast", x.setLeast(d, small), r.setLeast(d, small));
        else if (kind < 35) same(name + " setLetter", x.setLetter(small), r.setLetter(small));
        else if (kind < 37) same(name + " setArrow", x.setArrow(small), r.setArrow(small));
        else if (kind < 39) same(name + " undo", x.undo(), r.undo());
        else if (below(4) == 0) loadText(name, someText());
    }

    private void question(String name) {
        int a = somePoint();
        int b = somePoint();
        int d = someDimension();
        int what = around(0, 12);
        int lane = around(0, 12);
        int chain = around(1, 5);
        int position = around(-9, 400);
        int kind = below(11);
        if (kind == 0) same(name + " point", x.point(a, what), r.point(a, what));
        if (kind == 1) same(name + " dimension", x.dimension(d, what), r.dimension(d, what));
        if (kind == 2) same(name + " at", x.at(lane, position), r.at(lane, position));
        if (kind == 3) same(name + " least", x.distance(a, b, false), r.distance(a, b, false));
        if (kind == 4) same(name + " greatest", x.distance(a, b, true), r.distance(a, b, true));
        if (kind == 5) same(name + " ifExact", x.ifExact(d, a, b), r.ifExact(d, a, b));
        if (kind == 6) same(name + " critical", x.critical(a, b), r.critical(a, b));
        if (kind == 7) same(name + " needed", x.needed(), r.needed());
        if (kind == 8) same(name + " chain", x.chain(chain, what), r.chain(chain, what));
        if (kind == 9) same(name + " ifArrow", x.ifArrow(what), r.ifArrow(what));
        if (kind == 10) same(name + " count", x.count(what), r.count(what));
    }

    private void loadText(String name, String text) {
        same(name + " clearText", x.clearText(), r.clearText());
        for (int i = 0; i < text.length(); i++) {
            same(name + " type", x.type(text.charAt(i)), r.type(text.charAt(i)));
        }
        same(name + " load '" + text + "'", x.load(), r.load());
        same(name + " faultKind '" + text + "'", x.faultKind(), r.faultKind());
    }

    private void texts(int number) {
        seed = 4711;
        makeNew();
        for (int i = 0; i < number; i++) {
            if (calls >= LAST_CALLS) {
                makeNew();
            }
            loadText("text " + i, someText());
            if (i % 8 == 0) {
                same("text " + i + " digest", x.digest(), r.digest());
            }
        }
    }

    private String someText() {
        StringBuilder text = new StringBuilder("p");
        int points = 1 + below(below(4) == 0 ? 13 : 5);
        int position = below(10);
        for (int p = 0; p < points; p++) {
            if (p > 0) text.append(',');
            if (below(12) == 0) text.append('0');
            text.append(position);
            position += below(30) == 0 ? -below(5) : 1 + below(40);
        }
        int dimensions = below(below(4) == 0 ? 20 : 6);
        for (int d = 0; d < dimensions; d++) {
            int first = below(Math.max(1, Math.min(points, 10) - 1));
            text.append(';').append(first).append('-');
            text.append(Math.min(9, first + 1 + below(Math.max(1, points - first - 1))));
            if (below(4) == 0) text.append('+').append(below(23));
            if (below(4) == 0) text.append('-').append(below(22));
            if (below(3) == 0) text.append('c').append(below(20) == 0 ? below(10) : below(6));
        }
        for (int change = below(5) - 2; change > 0 && text.length() > 0; change--) {
            int where = below(text.length());
            char sign = "p0123456789,;-+c x".charAt(below(18));
            if (below(3) == 0) text.deleteCharAt(where);
            else if (below(2) == 0) text.insert(where, sign);
            else text.setCharAt(where, sign);
        }
        return text.length() > 84 ? text.substring(0, 84) : text.toString();
    }
}
