import java.util.ArrayDeque;
import java.util.ArrayList;
import java.util.Comparator;
import java.util.Deque;
import java.util.List;
import java.util.regex.Matcher;
import java.util.regex.Pattern;

/**
 * The document once more, as literally and slowly as it can be written, for comparison only. Where
 * the program takes a shorter way (shortest ways instead of all bounds, one pass for needed, a
 * closed chain by a walk, a text by a cursor), this class does what the words say instead.
 */
final class Reference {
    static final int BAD = -1, STATE = -2, FULL = -3, NONE = -999;
    private static final long FAR = 1L << 40;
    private static final Pattern DRAWING = Pattern.compile(
            "p\\d{1,3}(,\\d{1,3}){0,11}(;\\d-\\d(\\+\\d{1,2})?(-\\d{1,2})?(c\\d)?){0,16}");

    private static final class P {
        int position;

        P(int position) {
            this.position = position;
        }
    }

    private static final class D {
        P a, b;
        int minus, plus, chain, least;

        P first() {
            return a.position < b.position ? a : b;
        }

        P second() {
            return a.position < b.position ? b : a;
        }

        int value() {
            return second().position - first().position;
        }
    }

    private static final class Snapshot {
        List<P> points = new ArrayList<>();
        List<D> dims = new ArrayList<>();
        int letter, arrow;
    }

    private List<P> points = new ArrayList<>();
    private List<D> dims = new ArrayList<>();
    private int letter = 4, arrow = 3, faultKind = 0;
    private String text = "";
    private int[] laid;
    private long[][] known;
    private final Deque<Snapshot> history = new ArrayDeque<>();

    private Snapshot snapshot() {
        Snapshot s = new Snapshot();
        for (P p : points) {
            s.points.add(new P(p.position));
        }
        for (D d : dims) {
            D copy = new D();
            copy.a = s.points.get(points.indexOf(d.a));
            copy.b = s.points.get(points.indexOf(d.b));
            copy.minus = d.minus;
            copy.plus = d.plus;
            copy.chain = d.chain;
            copy.least = d.least;
            s.dims.add(copy);
        }
        s.letter = letter;
        s.arrow = arrow;
        return s;
    }

    private void change() {
        forget();
        history.addLast(snapshot());
        if (history.size() > 8) {
            history.removeFirst();
        }
    }

    /** Lanes and distances are kept from one change to the next, only to make long comparisons short. */
    private void forget() {
        laid = null;
        known = null;
    }

    private int[] laid() {
        if (laid == null) laid = lanes(arrow);
        return laid;
    }

    private long[][] known() {
        if (known == null) known = greatest(dims, null);
        return known;
    }

    private void sortPoints() {
        points.sort(Comparator.comparingInt(p -> p.position));
    }

    private boolean noPoint(int p) {
        return p < 0 || p >= points.size();
    }

    private boolean noDim(int d) {
        return d < 0 || d >= dims.size();
    }

    private boolean taken(int position) {
        return points.stream().anyMatch(p -> p.position == position);
    }

    int type(int code) {
        if (code < 32 || code > 126) return BAD;
        if (text.length() >= 80) return FULL;
        text += (char) code;
        return text.length();
    }

    int clearText() {
        int n = text.length();
        text = "";
        return n;
    }

    int faultKind() {
        return faultKind;
    }

    /** The smallest index at which no way of going on leads to a drawing; -1 if the text is one. */
    private int misplaced() {
        for (int i = 0; i < text.length(); i++) {
            Matcher m = DRAWING.matcher(text.substring(0, i + 1));
            if (!m.matches() && !m.hitEnd()) return i;
        }
        return DRAWING.matcher(text).matches() ? -1 : text.length();
    }

    /** The smallest index of a number that is wrong by its size, before a limit; -1 if none is. */
    private int wrongNumber(int limit) {
        List<Integer> positions = new ArrayList<>();
        boolean behindDims = false;
        int firstEnd = -1;
        for (int i = 0; i < limit; i++) {
            char before = i == 0 ? ' ' : text.charAt(i - 1);
            if (before == ';') {
                behindDims = true;
                firstEnd = -1;
            }
            if (!Character.isDigit(text.charAt(i)) || Character.isDigit(before)) continue;
            int end = i;
            while (end < limit && Character.isDigit(text.charAt(end))) end++;
            if (end < text.length() && Character.isDigit(text.charAt(end))) continue;
            int n = Integer.parseInt(text.substring(i, end));
            if (!behindDims) {
                if (n > 300 || !positions.isEmpty() && positions.get(positions.size() - 1) >= n) return i;
                positions.add(n);
            } else if (before == ';') {
                if (n >= positions.size()) return i;
                firstEnd = n;
            } else if (before == '-' && text.charAt(i - 3) == ';') {
                if (n >= positions.size() || n <= firstEnd) return i;
            } else if (before == 'c' ? n > 5 : n > 20) {
                return i;
            }
        }
        return -1;
    }

    int load() {
        int misplaced = misplaced();
        int number = wrongNumber(misplaced < 0 ? text.length() : misplaced);
        faultKind = number >= 0 ? 2 : misplaced >= 0 ? 1 : 0;
        if (faultKind != 0) return -10 - (faultKind == 2 ? number : misplaced);
        change();
        points = new ArrayList<>();
        dims = new ArrayList<>();
        String[] parts = text.substring(1).split(";");
        for (String position : parts[0].split(",")) {
            points.add(new P(Integer.parseInt(position)));
        }
        for (int i = 1; i < parts.length; i++) {
            Matcher m = Pattern.compile("(\\d)-(\\d)(?:\\+(\\d+))?(?:-(\\d+))?(?:c(\\d))?").matcher(parts[i]);
            if (!m.matches()) throw new IllegalStateException(parts[i]);
            D d = new D();
            d.a = points.get(Integer.parseInt(m.group(1)));
            d.b = points.get(Integer.parseInt(m.group(2)));
            d.plus = m.group(3) == null ? 0 : Integer.parseInt(m.group(3));
            d.minus = m.group(4) == null ? 0 : Integer.parseInt(m.group(4));
            d.chain = m.group(5) == null ? 0 : Integer.parseInt(m.group(5));
            dims.add(d);
        }
        return dims.size();
    }

    int addPoint(int position) {
        if (position < 0 || position > 300) return BAD;
        if (taken(position)) return STATE;
        if (points.size() >= 12) return FULL;
        change();
        P p = new P(position);
        points.add(p);
        sortPoints();
        return points.indexOf(p);
    }

    int movePoint(int point, int position) {
        if (noPoint(point) || position < 0 || position > 300) return BAD;
        P p = points.get(point);
        if (taken(position) && p.position != position) return STATE;
        change();
        p.position = position;
        sortPoints();
        return points.indexOf(p);
    }

    int dropPoint(int point) {
        if (noPoint(point)) return BAD;
        if (point(point, 1) > 0) return STATE;
        change();
        points.remove(point);
        return points.size();
    }

    int add(int a, int b) {
        if (noPoint(a) || noPoint(b) || a == b) return BAD;
        if (dims.size() >= 16) return FULL;
        change();
        D d = new D();
        d.a = points.get(a);
        d.b = points.get(b);
        dims.add(d);
        return dims.size() - 1;
    }

    int drop(int dimension) {
        if (noDim(dimension)) return BAD;
        change();
        dims.remove(dimension);
        return dims.size();
    }

    int setTolerance(int dimension, int minus, int plus) {
        if (noDim(dimension) || minus < 0 || minus > 20 || plus < 0 || plus > 20) return BAD;
        change();
        D d = dims.get(dimension);
        int before = 100 * d.minus + d.plus;
        d.minus = minus;
        d.plus = plus;
        return before;
    }

    int setChain(int dimension, int chain) {
        if (noDim(dimension) || chain < 0 || chain > 5) return BAD;
        change();
        int before = dims.get(dimension).chain;
        dims.get(dimension).chain = chain;
        return before;
    }

    int setLeast(int dimension, int lane) {
        if (noDim(dimension) || lane < 0 || lane > 9) return BAD;
        change();
        int before = dims.get(dimension).least;
        dims.get(dimension).least = lane;
        return before;
    }

    int setLetter(int width) {
        if (width < 1 || width > 9) return BAD;
        change();
        int before = letter;
        letter = width;
        return before;
    }

    int setArrow(int length) {
        if (length < 1 || length > 9) return BAD;
        change();
        int before = arrow;
        arrow = length;
        return before;
    }

    private int label(D d) {
        return letter * Integer.toString(d.value()).length();
    }

    private int form(D d, int arrowLength) {
        return d.value() >= label(d) + 2 * arrowLength ? 0 : d.value() >= label(d) ? 1 : 2;
    }

    private int begin(D d, int arrowLength) {
        return d.first().position - (form(d, arrowLength) == 0 ? 0 : arrowLength);
    }

    private int end(D d, int arrowLength) {
        int form = form(d, arrowLength);
        return d.second().position + (form == 0 ? 0 : arrowLength) + (form == 2 ? label(d) : 0);
    }

    private List<List<D>> units() {
        List<List<D>> units = new ArrayList<>();
        for (D d : dims) {
            List<D> own = null;
            for (List<D> unit : units) {
                if (d.chain != 0 && unit.get(0).chain == d.chain) own = unit;
            }
            if (own == null) {
                own = new ArrayList<>();
                units.add(own);
            }
            own.add(d);
        }
        return units;
    }

    private static int from(List<D> unit) {
        return unit.stream().mapToInt(d -> d.first().position).min().getAsInt();
    }

    private static int to(List<D> unit) {
        return unit.stream().mapToInt(d -> d.second().position).max().getAsInt();
    }

    private int[] lanes(int arrowLength) {
        List<List<D>> units = units();
        units.sort(Comparator.<List<D>>comparingInt(u -> to(u) - from(u)).thenComparingInt(Reference::from)
                .thenComparingInt(u -> dims.indexOf(u.get(0))));
        int[] lanes = new int[dims.size()];
        List<List<D>> placed = new ArrayList<>();
        for (List<D> unit : units) {
            int lane = unit.stream().mapToInt(d -> d.least).max().getAsInt();
            while (!fits(unit, lane, placed, lanes, arrowLength)) lane++;
            for (D d : unit) {
                lanes[dims.indexOf(d)] = lane;
            }
            placed.add(unit);
        }
        return lanes;
    }

    private boolean fits(List<D> unit, int lane, List<List<D>> placed, int[] lanes, int arrowLength) {
        for (List<D> other : placed) {
            int otherLane = lanes[dims.indexOf(other.get(0))];
            boolean covers = from(unit) <= from(other) && to(other) <= to(unit);
            if (covers && lane <= otherLane) return false;
            if (lane != otherLane) continue;
            for (D d : unit) {
                for (D e : other) {
                    boolean apart = end(d, arrowLength) < begin(e, arrowLength)
                            || end(e, arrowLength) < begin(d, arrowLength);
                    if (!apart) return false;
                }
            }
        }
        return true;
    }

    private int laneCount(int arrowLength) {
        int count = 0;
        for (int lane : lanes(arrowLength)) {
            count = Math.max(count, lane + 1);
        }
        return count;
    }

    private int top(P p) {
        int[] lanes = laid();
        int top = NONE;
        for (int d = 0; d < dims.size(); d++) {
            if (dims.get(d).a == p || dims.get(d).b == p) top = Math.max(top, lanes[d]);
        }
        return top;
    }

    private boolean crosses(P p, int dimension) {
        D d = dims.get(dimension);
        boolean within = d.first().position < p.position && p.position < d.second().position;
        return within && laid()[dimension] < top(p);
    }

    /** The greatest differences of positions, FAR where there is no limit. */
    private long[][] greatest(List<D> given, D exact) {
        int n = points.size();
        long[][] most = new long[n][n];
        for (long[] row : most) {
            java.util.Arrays.fill(row, FAR);
        }
        for (int i = 0; i < n; i++) {
            most[i][i] = 0;
        }
        for (D d : given) {
            int i = points.indexOf(d.first());
            int j = points.indexOf(d.second());
            most[i][j] = Math.min(most[i][j], d.value() + (d == exact ? 0 : d.plus));
            most[j][i] = Math.min(most[j][i], (d == exact ? 0 : d.minus) - d.value());
        }
        for (int k = 0; k < n; k++) {
            for (int i = 0; i < n; i++) {
                for (int j = 0; j < n; j++) {
                    if (most[i][k] != FAR && most[k][j] != FAR) {
                        most[i][j] = Math.min(most[i][j], most[i][k] + most[k][j]);
                    }
                }
            }
        }
        return most;
    }

    private boolean superfluous(D d, List<D> given) {
        List<D> others = new ArrayList<>(given);
        others.remove(d);
        long[][] most = greatest(others, null);
        int i = points.indexOf(d.first());
        int j = points.indexOf(d.second());
        return most[i][j] != FAR && most[j][i] != FAR
                && most[i][j] <= d.value() + d.plus && -most[j][i] >= d.value() - d.minus;
    }

    private int group(int point) {
        long[][] most = known();
        List<Integer> smallest = new ArrayList<>();
        for (int p = 0; p < points.size(); p++) {
            int s = p;
            for (int q = p; q >= 0; q--) {
                if (most[p][q] != FAR) s = q;
            }
            if (s == p) smallest.add(p);
            if (p == point) return smallest.indexOf(s);
        }
        return -1;
    }

    int point(int point, int what) {
        if (noPoint(point) || what < 0 || what > 4) return BAD;
        P p = points.get(point);
        if (what == 0) return p.position;
        if (what == 1) return (int) dims.stream().filter(d -> d.a == p || d.b == p).count();
        if (what == 2) return top(p);
        if (what == 4) return group(point);
        int crossings = 0;
        for (int d = 0; d < dims.size(); d++) {
            if (crosses(p, d)) crossings++;
        }
        return crossings;
    }

    int dimension(int dimension, int what) {
        if (noDim(dimension) || what < 0 || what > 12) return BAD;
        D d = dims.get(dimension);
        switch (what) {
            case 0: return points.indexOf(d.first());
            case 1: return points.indexOf(d.second());
            case 2: return d.value();
            case 3: return d.minus;
            case 4: return d.plus;
            case 5: return d.chain;
            case 6: return d.least;
            case 7: return form(d, arrow);
            case 8: return begin(d, arrow);
            case 9: return end(d, arrow);
            case 10: return laid()[dimension];
            case 11: return superfluous(d, dims) ? 1 : 0;
            default: return (int) points.stream().filter(p -> crosses(p, dimension)).count();
        }
    }

    int at(int lane, int position) {
        if (lane < 0 || position < -9 || position > 400) return BAD;
        int[] lanes = laid();
        for (int d = 0; d < dims.size(); d++) {
            D at = dims.get(d);
            if (lanes[d] == lane && begin(at, arrow) <= position && position <= end(at, arrow)) return d;
        }
        return NONE;
    }

    int distance(int a, int b, boolean greatest) {
        if (noPoint(a) || noPoint(b) || a == b) return BAD;
        long[][] most = known();
        if (most[a][b] == FAR) return NONE;
        return (int) (greatest ? most[a][b] : -most[b][a]);
    }

    int ifExact(int dimension, int a, int b) {
        if (noDim(dimension) || noPoint(a) || noPoint(b) || a == b) return BAD;
        long[][] now = known();
        return now[a][b] == FAR ? NONE : gain(now, dimension, a, b);
    }

    private int gain(long[][] now, int dimension, int a, int b) {
        long[][] then = greatest(dims, dims.get(dimension));
        return (int) (now[a][b] + now[b][a] - then[a][b] - then[b][a]);
    }

    int critical(int a, int b) {
        if (noPoint(a) || noPoint(b) || a == b) return BAD;
        long[][] now = known();
        if (now[a][b] == FAR) return NONE;
        int best = 0;
        int most = -1;
        for (int d = 0; d < dims.size(); d++) {
            int gain = gain(now, d, a, b);
            if (gain > most) {
                most = gain;
                best = d;
            }
        }
        return best;
    }

    int needed() {
        List<D> left = new ArrayList<>(dims);
        boolean removed = true;
        while (removed) {
            removed = false;
            for (int d = left.size() - 1; d >= 0 && !removed; d--) {
                if (superfluous(left.get(d), left)) {
                    left.remove(d);
                    removed = true;
                }
            }
        }
        return left.size();
    }

    int chain(int chain, int what) {
        if (chain < 1 || chain > 5 || what < 0 || what > 8) return BAD;
        List<D> own = new ArrayList<>(dims.stream().filter(d -> d.chain == chain).toList());
        if (what == 0) return own.size();
        if (what == 4) return own.stream().mapToInt(D::value).sum();
        if (what == 5) return own.stream().mapToInt(d -> d.minus).sum();
        if (what == 6) return own.stream().mapToInt(d -> d.plus).sum();
        if (own.isEmpty()) return NONE;
        if (what == 1) return from(own);
        if (what == 2) return to(own);
        if (what == 8) return laid()[dims.indexOf(own.get(0))];
        if (what == 3) {
            own.sort(Comparator.comparingInt(d -> d.first().position));
            for (int i = 1; i < own.size(); i++) {
                if (own.get(i).first() != own.get(i - 1).second()) return 0;
            }
            return 1;
        }
        for (D d : dims) {
            if (d.chain != chain && d.first().position == from(own) && d.second().position == to(own)) {
                return dims.indexOf(d);
            }
        }
        return NONE;
    }

    int ifArrow(int length) {
        return length < 1 || length > 9 ? BAD : laneCount(length);
    }

    int undo() {
        if (history.isEmpty()) return STATE;
        forget();
        Snapshot s = history.removeLast();
        points = s.points;
        dims = s.dims;
        letter = s.letter;
        arrow = s.arrow;
        return history.size();
    }

    int count(int what) {
        int sum = 0;
        switch (what) {
            case 0: return points.size();
            case 1: return dims.size();
            case 2: return units().size();
            case 3: return laneCount(arrow);
            case 4:
                for (int p = 0; p < points.size(); p++) {
                    sum += point(p, 3);
                }
                return sum;
            case 5:
                for (int p = 0; p < points.size(); p++) {
                    sum = Math.max(sum, group(p) + 1);
                }
                return sum;
            case 6: return (int) dims.stream().filter(d -> superfluous(d, dims)).count();
            case 7: return letter;
            case 8: return arrow;
            case 9: return text.length();
            case 10: return history.size();
            default: return BAD;
        }
    }

    long digest() {
        List<Integer> values = new ArrayList<>();
        for (int what = 0; what <= 10; what++) values.add(count(what));
        for (int p = 0; p < points.size(); p++) {
            for (int what = 0; what <= 4; what++) values.add(point(p, what));
        }
        for (int d = 0; d < dims.size(); d++) {
            for (int what = 0; what <= 12; what++) values.add(dimension(d, what));
        }
        for (int a = 0; a < points.size(); a++) {
            for (int b = a + 1; b < points.size(); b++) {
                values.add(distance(a, b, false));
                values.add(distance(a, b, true));
                values.add(critical(a, b));
            }
        }
        for (int c = 1; c <= 5; c++) {
            for (int what = 0; what <= 8; what++) values.add(chain(c, what));
        }
        values.add(needed());
        long h = 18841;
        for (int v : values) {
            h = 31 * h + v;
        }
        return h;
    }
}
