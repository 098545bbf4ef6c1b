import java.util.Arrays;

/** A drafter for the dimension lines above a drawing. README.md says how it is used. */
public final class DimensionLines {
    public static final int BAD = -1, STATE = -2, FULL = -3, NONE = -999;

    private static final int MOST_POINTS = 12;
    private static final int MOST_DIMENSIONS = 16;
    private static final int MOST_STATES = 8;
    private static final int MOST_CHARACTERS = 80;
    private static final int MOST_CHAIN = 5;
    private static final int GREATEST_POSITION = 300;
    private static final int GREATEST_TOLERANCE = 20;
    private static final int HIGHEST_LEAST_LANE = 9;
    private static final int GREATEST_SETTING = 9;

    private final Drawing drawing = new Drawing();
    private final History history = new History();
    private final TextReader reader = new TextReader();
    private final Lanes lanes = new Lanes();
    private final Lanes lanesIf = new Lanes();
    private final Bounds bounds = new Bounds();
    private boolean lanesFresh = false;
    private boolean boundsFresh = false;

    public DimensionLines() {
    }

    // ---- drawings

    public int type(int code) {
        if (!isWithin(code, 32, 126)) {
            return BAD;
        }
        if (reader.length == MOST_CHARACTERS) {
            return FULL;
        }
        return reader.append(code);
    }

    public int clearText() {
        return reader.empty();
    }

    public int load() {
        reader.read();
        if (reader.fault != 0) {
            return -10 - reader.faultIndex;
        }
        beginChange();
        drawing.copyContentFrom(reader.result);
        return drawing.dimensionCount;
    }

    public int faultKind() {
        return reader.fault;
    }

    public int addPoint(int position) {
        if (!isWithin(position, 0, GREATEST_POSITION)) {
            return BAD;
        }
        if (drawing.hasPointAt(position)) {
            return STATE;
        }
        if (drawing.pointCount == MOST_POINTS) {
            return FULL;
        }
        beginChange();
        return drawing.insertPoint(position);
    }

    public int movePoint(int point, int position) {
        if (!drawing.hasPoint(point) || !isWithin(position, 0, GREATEST_POSITION)) {
            return BAD;
        }
        if (drawing.hasPointAt(position) && drawing.positions[point] != position) {
            return STATE;
        }
        beginChange();
        return drawing.shiftPoint(point, position);
    }

    public int dropPoint(int point) {
        if (!drawing.hasPoint(point)) {
            return BAD;
        }
        if (drawing.countDimensionsAt(point) > 0) {
            return STATE;
        }
        beginChange();
        drawing.removePoint(point);
        return drawing.pointCount;
    }

    public int add(int a, int b) {
        if (!areTwoPoints(a, b)) {
            return BAD;
        }
        if (drawing.dimensionCount == MOST_DIMENSIONS) {
            return FULL;
        }
        beginChange();
        return drawing.append(Math.min(a, b), Math.max(a, b));
    }

    public int drop(int dimension) {
        if (!drawing.hasDimension(dimension)) {
            return BAD;
        }
        beginChange();
        drawing.removeDimension(dimension);
        return drawing.dimensionCount;
    }

    public int setTolerance(int dimension, int minus, int plus) {
        if (!drawing.hasDimension(dimension) || !isWithin(minus, 0, GREATEST_TOLERANCE)
                || !isWithin(plus, 0, GREATEST_TOLERANCE)) {
            return BAD;
        }
        int before = 100 * drawing.minus[dimension] + drawing.plus[dimension];
        beginChange();
        drawing.minus[dimension] = minus;
        drawing.plus[dimension] = plus;
        return before;
    }

    public int setChain(int dimension, int chain) {
        if (!drawing.hasDimension(dimension) || !isWithin(chain, 0, MOST_CHAIN)) {
            return BAD;
        }
        int before = drawing.chainOf[dimension];
        beginChange();
        drawing.chainOf[dimension] = chain;
        return before;
    }

    public int setLeast(int dimension, int lane) {
        if (!drawing.hasDimension(dimension) || !isWithin(lane, 0, HIGHEST_LEAST_LANE)) {
            return BAD;
        }
        int before = drawing.least[dimension];
        beginChange();
        drawing.least[dimension] = lane;
        return before;
    }

    public int setLetter(int width) {
        if (!isWithin(width, 1, GREATEST_SETTING)) {
            return BAD;
        }
        int before = drawing.letter;
        beginChange();
        drawing.letter = width;
        return before;
    }

    public int setArrow(int length) {
        if (!isWithin(length, 1, GREATEST_SETTING)) {
            return BAD;
        }
        int before = drawing.arrow;
        beginChange();
        drawing.arrow = length;
        return before;
    }

    // ---- what is drawn

    public int point(int point, int what) {
        if (!drawing.hasPoint(point)) {
            return BAD;
        }
        switch (what) {
            case 0: return drawing.positions[point];
            case 1: return drawing.countDimensionsAt(point);
            case 2: return laidLanes().topOf(point);
            case 3: return laidLanes().crossings[point];
            case 4: return knownBounds().group[point];
            default: return BAD;
        }
    }

    public int dimension(int dimension, int what) {
        if (!drawing.hasDimension(dimension)) {
            return BAD;
        }
        switch (what) {
            case 0: return drawing.first[dimension];
            case 1: return drawing.second[dimension];
            case 2: return drawing.valueOf(dimension);
            case 3: return drawing.minus[dimension];
            case 4: return drawing.plus[dimension];
            case 5: return drawing.chainOf[dimension];
            case 6: return drawing.least[dimension];
            case 7: return laidLanes().form[dimension];
            case 8: return laidLanes().begin[dimension];
            case 9: return laidLanes().end[dimension];
            case 10: return laidLanes().lane[dimension];
            case 11: return knownBounds().superfluous[dimension] ? 1 : 0;
            case 12: return laidLanes().crossed[dimension];
            default: return BAD;
        }
    }

    public int at(int lane, int position) {
        if (lane < 0 || !isWithin(position, -9, 400)) {
            return BAD;
        }
        Lanes laid = laidLanes();
        for (int d = 0; d < drawing.dimensionCount; d++) {
            if (laid.lane[d] == lane && laid.begin[d] <= position && position <= laid.end[d]) {
                return d;
            }
        }
        return NONE;
    }

    // ---- tolerances

    public int distance(int a, int b, boolean greatest) {
        if (!areTwoPoints(a, b)) {
            return BAD;
        }
        Bounds known = knownBounds();
        if (!known.areBound(a, b)) {
            return NONE;
        }
        return greatest ? known.greatest[a][b] : -known.greatest[b][a];
    }

    public int ifExact(int dimension, int a, int b) {
        if (!drawing.hasDimension(dimension) || !areTwoPoints(a, b)) {
            return BAD;
        }
        Bounds known = knownBounds();
        return known.areBound(a, b) ? known.gain(drawing, dimension, a, b) : NONE;
    }

    public int critical(int a, int b) {
        if (!areTwoPoints(a, b)) {
            return BAD;
        }
        Bounds known = knownBounds();
        return known.areBound(a, b) ? known.bestToMakeExact(drawing, a, b) : NONE;
    }

    public int needed() {
        return knownBounds().countLeft();
    }

    // ---- chains

    public int chain(int chain, int what) {
        if (!isWithin(chain, 1, MOST_CHAIN) || !isWithin(what, 0, 8)) {
            return BAD;
        }
        int number = drawing.countOfChain(chain);
        if (number == 0) {
            return what == 0 || isWithin(what, 4, 6) ? 0 : NONE;
        }
        switch (what) {
            case 0: return number;
            case 1: return drawing.positions[drawing.beginOfChain(chain)];
            case 2: return drawing.positions[drawing.endOfChain(chain)];
            case 3: return drawing.isClosed(chain) ? 1 : 0;
            case 4: return drawing.sumOfValues(chain);
            case 5: return drawing.sumOfChain(chain, drawing.minus);
            case 6: return drawing.sumOfChain(chain, drawing.plus);
            case 7: return drawing.smallestOver(chain);
            default: return laidLanes().laneOfChain(drawing, chain);
        }
    }

    // ---- what would be

    public int ifArrow(int length) {
        if (!isWithin(length, 1, GREATEST_SETTING)) {
            return BAD;
        }
        lanesIf.layOut(drawing, length);
        return lanesIf.laneCount;
    }

    // ---- history

    public int undo() {
        if (history.kept == 0) {
            return STATE;
        }
        history.restore(drawing);
        forgetWhatWasWorkedOut();
        return history.kept;
    }

    public int count(int what) {
        switch (what) {
            case 0: return drawing.pointCount;
            case 1: return drawing.dimensionCount;
            case 2: return laidLanes().unitCount;
            case 3: return laidLanes().laneCount;
            case 4: return laidLanes().crossingCount;
            case 5: return knownBounds().groupCount;
            case 6: return knownBounds().superfluousCount;
            case 7: return drawing.letter;
            case 8: return drawing.arrow;
            case 9: return reader.length;
            case 10: return history.kept;
            default: return BAD;
        }
    }

    public long digest() {
        long h = 18841;
        for (int what = 0; what <= 10; what++) {
            h = 31 * h + count(what);
        }
        for (int p = 0; p < drawing.pointCount; p++) {
            for (int what = 0; what <= 4; what++) {
                h = 31 * h + point(p, what);
            }
        }
        for (int d = 0; d < drawing.dimensionCount; d++) {
            for (int what = 0; what <= 12; what++) {
                h = 31 * h + dimension(d, what);
            }
        }
        h = hashOfPairs(h);
        for (int c = 1; c <= MOST_CHAIN; c++) {
            for (int what = 0; what <= 8; what++) {
                h = 31 * h + chain(c, what);
            }
        }
        return 31 * h + needed();
    }

    private long hashOfPairs(long before) {
        long h = before;
        for (int a = 0; a < drawing.pointCount; a++) {
            for (int b = a + 1; b < drawing.pointCount; b++) {
                h = 31 * h + distance(a, b, false);
                h = 31 * h + distance(a, b, true);
                h = 31 * h + critical(a, b);
            }
        }
        return h;
    }

    private static boolean isWithin(int number, int least, int greatest) {
        return least <= number && number <= greatest;
    }

    private boolean areTwoPoints(int a, int b) {
        return drawing.hasPoint(a) && drawing.hasPoint(b) && a != b;
    }

    private void beginChange() {
        history.record(drawing);
        forgetWhatWasWorkedOut();
    }

    private void forgetWhatWasWorkedOut() {
        lanesFresh = false;
        boundsFresh = false;
    }

    private Lanes laidLanes() {
        if (!lanesFresh) {
            lanes.layOut(drawing, drawing.arrow);
            lanesFresh = true;
        }
        return lanes;
    }

    private Bounds knownBounds() {
        if (!boundsFresh) {
            bounds.workOut(drawing);
            boundsFresh = true;
        }
        return bounds;
    }

    /** What a change records: the points, the dimensions and the settings. */
    private static final class Drawing {
        final int[] positions = new int[MOST_POINTS];
        final int[] first = new int[MOST_DIMENSIONS];
        final int[] second = new int[MOST_DIMENSIONS];
        final int[] minus = new int[MOST_DIMENSIONS];
        final int[] plus = new int[MOST_DIMENSIONS];
        final int[] chainOf = new int[MOST_DIMENSIONS];
        final int[] least = new int[MOST_DIMENSIONS];
        int pointCount = 0;
        int dimensionCount = 0;
        int letter = 4;
        int arrow = 3;

        void copyFrom(Drawing other) {
            copyContentFrom(other);
            letter = other.letter;
            arrow = other.arrow;
        }

        void copyContentFrom(Drawing other) {
            pointCount = other.pointCount;
            dimensionCount = other.dimensionCount;
            System.arraycopy(other.positions, 0, positions, 0, MOST_POINTS);
            System.arraycopy(other.first, 0, first, 0, MOST_DIMENSIONS);
            System.arraycopy(other.second, 0, second, 0, MOST_DIMENSIONS);
            System.arraycopy(other.minus, 0, minus, 0, MOST_DIMENSIONS);
            System.arraycopy(other.plus, 0, plus, 0, MOST_DIMENSIONS);
            System.arraycopy(other.chainOf, 0, chainOf, 0, MOST_DIMENSIONS);
            System.arraycopy(other.least, 0, least, 0, MOST_DIMENSIONS);
        }

        boolean hasPoint(int point) {
            return point >= 0 && point < pointCount;
        }

        boolean hasDimension(int dimension) {
            return dimension >= 0 && dimension < dimensionCount;
        }

        boolean hasPointAt(int position) {
            int before = countPointsBefore(position);
            return before < pointCount && positions[before] == position;
        }

        int countPointsBefore(int position) {
            int before = 0;
            for (int p = 0; p < pointCount; p++) {
                if (positions[p] < position) {
                    before++;
                }
            }
            return before;
        }

        boolean isEnd(int dimension, int point) {
            return first[dimension] == point || second[dimension] == point;
        }

        int countDimensionsAt(int point) {
            int number = 0;
            for (int d = 0; d < dimensionCount; d++) {
                if (isEnd(d, point)) {
                    number++;
                }
            }
            return number;
        }

        int valueOf(int dimension) {
            return positions[second[dimension]] - positions[first[dimension]];
        }

        int insertPoint(int position) {
            pointCount++;
            positions[pointCount - 1] = position;
            // the new point stands behind all others for a moment, so that a move finds its place
            return shiftPoint(pointCount - 1, position);
        }

        int shiftPoint(int point, int position) {
            int place = countPointsBefore(position);
            if (positions[point] < position) {
                place--;
            }
            renumberEnds(point, place);
            for (int p = point; p < place; p++) {
                positions[p] = positions[p + 1];
            }
            for (int p = point; p > place; p--) {
                positions[p] = positions[p - 1];
            }
            positions[place] = position;
            return place;
        }

        void removePoint(int point) {
            renumberEnds(point, pointCount - 1);
            closeGap(positions, point, pointCount);
            pointCount--;
        }

        private void renumberEnds(int from, int to) {
            for (int d = 0; d < dimensionCount; d++) {
                int one = renumbered(first[d], from, to);
                int other = renumbered(second[d], from, to);
                first[d] = Math.min(one, other);
                second[d] = Math.max(one, other);
            }
        }

        private static int renumbered(int point, int from, int to) {
            if (point == from) {
                return to;
            }
            if (from < point && point <= to) {
                return point - 1;
            }
            return to <= point && point < from ? point + 1 : point;
        }

        private static void closeGap(int[] row, int gap, int length) {
            for (int i = gap + 1; i < length; i++) {
                row[i - 1] = row[i];
            }
        }

        int append(int firstEnd, int secondEnd) {
            int d = dimensionCount;
            dimensionCount++;
            first[d] = firstEnd;
            second[d] = secondEnd;
            minus[d] = 0;
            plus[d] = 0;
            chainOf[d] = 0;
            least[d] = 0;
            return d;
        }

        void removeDimension(int dimension) {
            closeGap(first, dimension, dimensionCount);
            closeGap(second, dimension, dimensionCount);
            closeGap(minus, dimension, dimensionCount);
            closeGap(plus, dimension, dimensionCount);
            closeGap(chainOf, dimension, dimensionCount);
            closeGap(least, dimension, dimensionCount);
            dimensionCount--;
        }

        int countOfChain(int chain) {
            int number = 0;
            for (int d = 0; d < dimensionCount; d++) {
                if (chainOf[d] == chain) {
                    number++;
                }
            }
            return number;
        }

        int sumOfChain(int chain, int[] row) {
            int sum = 0;
            for (int d = 0; d < dimensionCount; d++) {
                if (chainOf[d] == chain) {
                    sum += row[d];
                }
            }
            return sum;
        }

        int sumOfValues(int chain) {
            int sum = 0;
            for (int d = 0; d < dimensionCount; d++) {
                if (chainOf[d] == chain) {
                    sum += valueOf(d);
                }
            }
            return sum;
        }

        /** The point where the span of a chain that has dimensions begins. */
        int beginOfChain(int chain) {
            int begin = pointCount - 1;
            for (int d = 0; d < dimensionCount; d++) {
                if (chainOf[d] == chain) {
                    begin = Math.min(begin, first[d]);
                }
            }
            return begin;
        }

        int endOfChain(int chain) {
            int end = 0;
            for (int d = 0; d < dimensionCount; d++) {
                if (chainOf[d] == chain) {
                    end = Math.max(end, second[d]);
                }
            }
            return end;
        }

        /**
         * A walk from dimension to dimension never comes back to a first end, so it has as many
         * steps as the chain has dimensions only if it meets each of them.
         */
        boolean isClosed(int chain) {
            int number = countOfChain(chain);
            int point = beginOfChain(chain);
            for (int steps = 0; steps < number; steps++) {
                int next = nextInChain(chain, point);
                if (next < 0) {
                    return false;
                }
                point = second[next];
            }
            return true;
        }

        private int nextInChain(int chain, int point) {
            for (int d = 0; d < dimensionCount; d++) {
                if (chainOf[d] == chain && first[d] == point) {
                    return d;
                }
            }
            return -1;
        }

        int smallestOver(int chain) {
            int begin = beginOfChain(chain);
            int end = endOfChain(chain);
            for (int d = 0; d < dimensionCount; d++) {
                if (chainOf[d] != chain && first[d] == begin && second[d] == end) {
                    return d;
                }
            }
            return NONE;
        }
    }

    /** The remembered states, in a ring, so that the oldest one is overwritten. */
    private static final class History {
        private final Drawing[] states = new Drawing[MOST_STATES];
        private int latest = 0;
        int kept = 0;

        History() {
            for (int i = 0; i < MOST_STATES; i++) {
                states[i] = new Drawing();
            }
        }

        void record(Drawing drawing) {
            latest = (latest + 1) % MOST_STATES;
            states[latest].copyFrom(drawing);
            kept = Math.min(kept + 1, MOST_STATES);
        }

        void restore(Drawing drawing) {
            drawing.copyFrom(states[latest]);
            latest = (latest + MOST_STATES - 1) % MOST_STATES;
            kept--;
        }
    }

    /** The text buffer, and its reading as a drawing. */
    private static final class TextReader {
        private static final int MISPLACED = 1;
        private static final int OUT_OF_RANGE = 2;
        private static final int END_OF_TEXT = -1;

        private final int[] text = new int[MOST_CHARACTERS];
        final Drawing result = new Drawing();
        int length = 0;
        int fault = 0;
        int faultIndex = 0;
        private int cursor = 0;
        private int numberStart = 0;

        int append(int code) {
            text[length] = code;
            length++;
            return length;
        }

        int empty() {
            int before = length;
            length = 0;
            return before;
        }

        /** Reading goes on behind a fault, as only the first one found is kept. */
        void read() {
            fault = 0;
            cursor = 0;
            result.pointCount = 0;
            result.dimensionCount = 0;
            expect('p');
            readPosition();
            for (int p = 1; p < MOST_POINTS && accept(','); p++) {
                readPosition();
            }
            for (int d = 0; d < MOST_DIMENSIONS && accept(';'); d++) {
                readDimension();
            }
            if (cursor < length) {
                fail(MISPLACED, cursor);
            }
        }

        private void readPosition() {
            int position = readNumber(3);
            int p = result.pointCount;
            boolean ascends = p == 0 || result.positions[p - 1] < position;
            demand(position <= GREATEST_POSITION && ascends);
            result.positions[p] = position;
            result.pointCount++;
        }

        private void readDimension() {
            int firstEnd = readNumber(1);
            demand(result.hasPoint(firstEnd));
            expect('-');
            int secondEnd = readNumber(1);
            demand(result.hasPoint(secondEnd) && firstEnd < secondEnd);
            int d = result.append(firstEnd, secondEnd);
            if (accept('+')) {
                result.plus[d] = readUpTo(GREATEST_TOLERANCE, 2);
            }
            if (accept('-')) {
                result.minus[d] = readUpTo(GREATEST_TOLERANCE, 2);
            }
            if (accept('c')) {
                result.chainOf[d] = readUpTo(MOST_CHAIN, 1);
            }
        }

        private int readUpTo(int greatest, int digits) {
            int number = readNumber(digits);
            demand(number <= greatest);
            return number;
        }

        private int readNumber(int digits) {
            numberStart = cursor;
            int number = 0;
            for (int i = 0; i < digits && isDigitNext(); i++) {
                number = 10 * number + next() - '0';
                cursor++;
            }
            if (cursor == numberStart || isDigitNext()) {
                fail(MISPLACED, cursor);
            }
            return number;
        }

        /** Asked for the number that was read last. */
        private void demand(boolean holds) {
            if (!holds) {
                fail(OUT_OF_RANGE, numberStart);
            }
        }

        private void expect(int code) {
            if (!accept(code)) {
                fail(MISPLACED, cursor);
            }
        }

        private boolean accept(int code) {
            if (fault != 0 || next() != code) {
                return false;
            }
            cursor++;
            return true;
        }

        private boolean isDigitNext() {
            return isWithin(next(), '0', '9');
        }

        private int next() {
            return cursor < length ? text[cursor] : END_OF_TEXT;
        }

        private void fail(int kind, int index) {
            if (fault == 0) {
                fault = kind;
                faultIndex = index;
            }
        }
    }

    /**
     * Forms, extents, lanes and witness lines. A unit is known by the smallest of its dimensions,
     * its leader.
     */
    private static final class Lanes {
        private static final int NOT_PLACED = -1;

        final int[] form = new int[MOST_DIMENSIONS];
        final int[] begin = new int[MOST_DIMENSIONS];
        final int[] end = new int[MOST_DIMENSIONS];
        final int[] lane = new int[MOST_DIMENSIONS];
        final int[] crossed = new int[MOST_DIMENSIONS];
        final int[] crossings = new int[MOST_POINTS];
        int unitCount = 0;
        int laneCount = 0;
        int crossingCount = 0;
        private final int[] top = new int[MOST_POINTS];
        private final int[] leader = new int[MOST_DIMENSIONS];
        private final int[] spanBegin = new int[MOST_DIMENSIONS];
        private final int[] spanEnd = new int[MOST_DIMENSIONS];
        private final int[] leastOfUnit = new int[MOST_DIMENSIONS];
        private final int[] order = new int[MOST_DIMENSIONS];
        private int dimensionCount = 0;

        void layOut(Drawing drawing, int arrow) {
            dimensionCount = drawing.dimensionCount;
            unitCount = 0;
            laneCount = 0;
            for (int d = 0; d < dimensionCount; d++) {
                measure(drawing, d, arrow);
                lane[d] = NOT_PLACED;
                joinUnit(drawing, d);
            }
            for (int rank = 0; rank < unitCount; rank++) {
                place(rank);
            }
            drawWitnessLines(drawing);
        }

        int topOf(int point) {
            return top[point] == NOT_PLACED ? NONE : top[point];
        }

        int laneOfChain(Drawing drawing, int chain) {
            for (int d = 0; d < dimensionCount; d++) {
                if (drawing.chainOf[d] == chain) {
                    return lane[d];
                }
            }
            return NONE;
        }

        private void measure(Drawing drawing, int d, int arrow) {
            int value = drawing.valueOf(d);
            int label = drawing.letter * digitsOf(value);
            begin[d] = drawing.positions[drawing.first[d]];
            end[d] = drawing.positions[drawing.second[d]];
            if (value >= label + 2 * arrow) {
                form[d] = 0;
                return;
            }
            form[d] = value >= label ? 1 : 2;
            begin[d] -= arrow;
            end[d] += form[d] == 1 ? arrow : arrow + label;
        }

        private static int digitsOf(int value) {
            if (value >= 100) {
                return 3;
            }
            return value >= 10 ? 2 : 1;
        }

        private void joinUnit(Drawing drawing, int d) {
            int from = drawing.positions[drawing.first[d]];
            int to = drawing.positions[drawing.second[d]];
            int unit = leaderOf(drawing, d);
            leader[d] = unit;
            if (unit == d) {
                spanBegin[d] = from;
                spanEnd[d] = to;
                leastOfUnit[d] = drawing.least[d];
                order[unitCount] = d;
                unitCount++;
                return;
            }
            spanBegin[unit] = Math.min(spanBegin[unit], from);
            spanEnd[unit] = Math.max(spanEnd[unit], to);
            leastOfUnit[unit] = Math.max(leastOfUnit[unit], drawing.least[d]);
        }

        private static int leaderOf(Drawing drawing, int d) {
            int chain = drawing.chainOf[d];
            for (int other = 0; chain != 0 && other < d; other++) {
                if (drawing.chainOf[other] == chain) {
                    return other;
                }
            }
            return d;
        }

        /** Takes the unit whose turn it is out of those that are left, and places it. */
        private void place(int rank) {
            for (int later = rank + 1; later < unitCount; later++) {
                if (comesBefore(order[later], order[rank])) {
                    int swapped = order[rank];
                    order[rank] = order[later];
                    order[later] = swapped;
                }
            }
            int unit = order[rank];
            int free = lowestLaneFor(unit, rank);
            for (int d = 0; d < dimensionCount; d++) {
                if (leader[d] == unit) {
                    lane[d] = free;
                }
            }
            laneCount = Math.max(laneCount, free + 1);
        }

        private boolean comesBefore(int unit, int other) {
            int longer = spanEnd[unit] - spanBegin[unit] - (spanEnd[other] - spanBegin[other]);
            if (longer != 0) {
                return longer < 0;
            }
            if (spanBegin[unit] != spanBegin[other]) {
                return spanBegin[unit] < spanBegin[other];
            }
            return unit < other;
        }

        private int lowestLaneFor(int unit, int rank) {
            int lowest = leastOfUnit[unit];
            for (int before = 0; before < rank; before++) {
                int other = order[before];
                if (spanBegin[unit] <= spanBegin[other] && spanEnd[other] <= spanEnd[unit]) {
                    lowest = Math.max(lowest, lane[other] + 1);
                }
            }
            // the units before fill at most rank lanes, so that one of these is free
            for (int tried = 0; tried < rank && isTaken(lowest, unit); tried++) {
                lowest++;
            }
            return lowest;
        }

        private boolean isTaken(int here, int unit) {
            for (int d = 0; d < dimensionCount; d++) {
                for (int other = 0; leader[d] == unit && other < dimensionCount; other++) {
                    if (lane[other] == here && begin[other] <= end[d] && begin[d] <= end[other]) {
                        return true;
                    }
                }
            }
            return false;
        }

        private void drawWitnessLines(Drawing drawing) {
            crossingCount = 0;
            Arrays.fill(crossed, 0);
            for (int p = 0; p < drawing.pointCount; p++) {
                top[p] = NOT_PLACED;
                for (int d = 0; d < dimensionCount; d++) {
                    if (drawing.isEnd(d, p)) {
                        top[p] = Math.max(top[p], lane[d]);
                    }
                }
                countCrossings(drawing, p);
            }
        }

        private void countCrossings(Drawing drawing, int p) {
            crossings[p] = 0;
            for (int d = 0; d < dimensionCount; d++) {
                if (lane[d] < top[p] && drawing.first[d] < p && p < drawing.second[d]) {
                    crossings[p]++;
                    crossed[d]++;
                    crossingCount++;
                }
            }
        }
    }

    /**
     * What follows from the tolerances. The least distance from a to b is minus the greatest one
     * from b to a, so the greatest ones are enough. They are the shortest ways by steps, two for
     * each dimension: 2 * d from its first to its second end, 2 * d + 1 back. No circle of steps
     * is shorter than 0, as the positions of the drawing themselves keep to all tolerances.
     */
    private static final class Bounds {
        /** Longer than any way, so that a point that is not reached is no special case. */
        private static final int UNBOUND = 1000000;

        final int[][] greatest = new int[MOST_POINTS][MOST_POINTS];
        final int[] group = new int[MOST_POINTS];
        final boolean[] superfluous = new boolean[MOST_DIMENSIONS];
        int groupCount = 0;
        int superfluousCount = 0;
        private int dimensionCount = 0;
        private final boolean[] removed = new boolean[MOST_DIMENSIONS];
        private final int[] ways = new int[MOST_POINTS];
        private final int[] stepFrom = new int[2 * MOST_DIMENSIONS];
        private final int[] stepTo = new int[2 * MOST_DIMENSIONS];
        private final int[] stepLength = new int[2 * MOST_DIMENSIONS];

        void workOut(Drawing drawing) {
            listSteps(drawing);
            removeNone();
            for (int p = 0; p < drawing.pointCount; p++) {
                findWays(p, greatest[p]);
            }
            formGroups(drawing.pointCount);
            superfluousCount = 0;
            for (int d = 0; d < dimensionCount; d++) {
                superfluous[d] = isSuperfluous(d);
                superfluousCount += superfluous[d] ? 1 : 0;
            }
        }

        boolean areBound(int a, int b) {
            return greatest[a][b] != UNBOUND;
        }

        int gain(Drawing drawing, int d, int a, int b) {
            return greatest[a][b] - greatestIfExact(drawing, d, a, b)
                    + greatest[b][a] - greatestIfExact(drawing, d, b, a);
        }

        int bestToMakeExact(Drawing drawing, int a, int b) {
            int best = 0;
            for (int d = 1; d < dimensionCount; d++) {
                if (gain(drawing, d, a, b) > gain(drawing, best, a, b)) {
                    best = d;
                }
            }
            return best;
        }

        /**
         * What is not superfluous does not become so when others are removed, so one pass from
         * the greatest number down always meets the superfluous one with the greatest number.
         */
        int countLeft() {
            removeNone();
            int left = dimensionCount;
            for (int d = dimensionCount - 1; d >= 0; d--) {
                if (isSuperfluous(d)) {
                    removed[d] = true;
                    left--;
                }
            }
            return left;
        }

        /** A shortest way needs the exact dimension at most once, in one of its directions. */
        private int greatestIfExact(Drawing drawing, int d, int a, int b) {
            int from = drawing.first[d];
            int to = drawing.second[d];
            int value = drawing.valueOf(d);
            int forward = greatest[a][from] + value + greatest[to][b];
            int backward = greatest[a][to] - value + greatest[from][b];
            return Math.min(greatest[a][b], Math.min(forward, backward));
        }

        private void listSteps(Drawing drawing) {
            dimensionCount = drawing.dimensionCount;
            for (int d = 0; d < dimensionCount; d++) {
                int value = drawing.valueOf(d);
                stepFrom[2 * d] = drawing.first[d];
                stepTo[2 * d] = drawing.second[d];
                stepLength[2 * d] = value + drawing.plus[d];
                stepFrom[2 * d + 1] = drawing.second[d];
                stepTo[2 * d + 1] = drawing.first[d];
                stepLength[2 * d + 1] = drawing.minus[d] - value;
            }
        }

        private void removeNone() {
            for (int d = 0; d < MOST_DIMENSIONS; d++) {
                removed[d] = false;
            }
        }

        private boolean isSuperfluous(int d) {
            int forth = 2 * d;
            int back = 2 * d + 1;
            removed[d] = true;
            findWays(stepFrom[forth], ways);
            boolean implied = ways[stepTo[forth]] <= stepLength[forth];
            findWays(stepFrom[back], ways);
            implied = implied && ways[stepTo[back]] <= stepLength[back];
            removed[d] = false;
            return implied;
        }

        private void findWays(int source, int[] row) {
            Arrays.fill(row, UNBOUND);
            row[source] = 0;
            boolean changed = true;
            for (int round = 0; changed && round < MOST_POINTS; round++) {
                changed = false;
                for (int s = 0; s < 2 * dimensionCount; s++) {
                    int reached = row[stepFrom[s]];
                    int length = reached + stepLength[s];
                    if (!removed[s / 2] && reached != UNBOUND && length < row[stepTo[s]]) {
                        row[stepTo[s]] = length;
                        changed = true;
                    }
                }
            }
        }

        private void formGroups(int pointCount) {
            groupCount = 0;
            for (int p = 0; p < pointCount; p++) {
                int smallest = 0;
                while (smallest < p && !areBound(smallest, p)) {
                    smallest++;
                }
                if (smallest == p) {
                    group[p] = groupCount;
                    groupCount++;
                } else {
                    group[p] = group[smallest];
                }
            }
        }
    }
}
