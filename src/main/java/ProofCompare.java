/**
 * Compares two proofs: their surfaces, words and pages, by rules that tell faults, and keeps
 * who approved of which edition. Every row is made once, in a constructor, and used again, so
 * that no call but one that throws makes an object.
 */
public final class ProofCompare {
    private static final int SIDES = 2;
    private static final int MOST_ALONG = 32;
    private static final int MOST_BOUND = 255;
    private static final int MOST_NEAR = 2;
    private static final int MOST_WORDS = 40;
    private static final int PAGES = 20;
    private static final int MOST_RULES = 12;
    private static final int RULE_KINDS = 6;
    private static final int MOST_APPROVALS = 6;
    private static final int ENOUGH_APPROVALS = 2;

    /** The row number that asks how many rows there are. */
    private static final int HOW_MANY = -1;

    private static final int GONE = 1;
    private static final int MOVED = 2;
    private static final int NEW = 3;
    private static final int SHIFTED = 4;

    private final Surfaces surfaces;
    private final WordSide before;
    private final WordSide after;
    private final WordRows wordRows;
    private final Pages pages;
    private final Rules rules;
    private final Approvals approvals;

    public ProofCompare(int width, int height) {
        surfaces = new Surfaces(width, height);
        before = new WordSide();
        after = new WordSide();
        wordRows = new WordRows(before, after);
        pages = new Pages();
        rules = new Rules();
        approvals = new Approvals();
    }

    public int point(int side, int x, int y, int v) throws ArrayIndexOutOfBoundsException {
        if (!isSide(side) || !surfaces.holds(x, y)) {
            throw new ArrayIndexOutOfBoundsException("no such side or point");
        }
        return surfaces.put(side, x, y, v & 255);
    }

    public int bound(int b, int near) throws IllegalArgumentException {
        if (b < 0 || b > MOST_BOUND || near < 0 || near > MOST_NEAR) {
            throw new IllegalArgumentException("bound or near is out of range");
        }
        return surfaces.limit(b, near);
    }

    public long differing() {
        surfaces.refresh();
        return surfaces.differingPlaces;
    }

    public int box(int i, int what) throws IndexOutOfBoundsException {
        surfaces.refresh();
        Boxes boxes = surfaces.boxes;
        if (i == HOW_MANY) {
            return boxes.count;
        }
        if (i < 0 || i >= boxes.count || what < 0 || what >= Boxes.FIELDS) {
            throw new IndexOutOfBoundsException("no such box, or nothing to tell of it");
        }
        return boxes.tell(i, what);
    }

    public int word(int side, int w, int x, int y)
            throws ArrayIndexOutOfBoundsException, IllegalArgumentException, UnsupportedOperationException {
        if (!isSide(side)) {
            throw new ArrayIndexOutOfBoundsException("no such side");
        }
        if (w < 0) {
            throw new IllegalArgumentException("a word is 0 or more");
        }
        WordSide words = side == 0 ? before : after;
        if (words.count >= MOST_WORDS) {
            throw new UnsupportedOperationException("the side is full");
        }
        wordRows.stale = true;
        return words.add(w, x, y);
    }

    public int words(int i, int what) throws IndexOutOfBoundsException {
        wordRows.refresh();
        if (i == HOW_MANY) {
            return wordRows.count;
        }
        if (i < 0 || i >= wordRows.count || what < 0 || what >= WordRows.FIELDS) {
            throw new IndexOutOfBoundsException("no such row, or nothing to tell of it");
        }
        return wordRows.tell(i, what);
    }

    public int size(int side, int page, int w, int h)
            throws ArrayIndexOutOfBoundsException, IllegalArgumentException {
        if (!isSide(side) || !isPage(page)) {
            throw new ArrayIndexOutOfBoundsException("no such side or page");
        }
        if (w < 1 || h < 1) {
            throw new IllegalArgumentException("a size is 1 or more");
        }
        pages.put(side, page, w, h);
        return pages.hasOtherSizes(page) ? 0 : 1;
    }

    public int missing(int i) throws IndexOutOfBoundsException {
        int count = pages.countMissing();
        if (i == HOW_MANY) {
            return count;
        }
        if (i < 0 || i >= count) {
            throw new IndexOutOfBoundsException("no such missing page");
        }
        return pages.tellMissing(i);
    }

    public int rule(int kind, int a, boolean fails)
            throws IllegalArgumentException, UnsupportedOperationException {
        if (kind < 0 || kind >= RULE_KINDS || a < 0) {
            throw new IllegalArgumentException("no such kind, or the bound is below 0");
        }
        if (rules.count >= MOST_RULES) {
            throw new UnsupportedOperationException("there are as many rules as there may be");
        }
        return rules.add(kind, a, fails);
    }

    public int check() {
        surfaces.refresh();
        wordRows.refresh();
        rules.forgetFaults();
        for (int i = 0; i < rules.count; i++) {
            if (rules.fails[i]) {
                rules.noteFailure(i);
            } else {
                rules.judge(i, find(rules.kinds[i]));
            }
        }
        return rules.faultCount;
    }

    public int fault(int i, int what) throws IndexOutOfBoundsException {
        if (i < 0 || i >= rules.faultCount || what < 0 || what >= Rules.FAULT_FIELDS) {
            throw new IndexOutOfBoundsException("no such fault, or nothing to tell of it");
        }
        return rules.tellFault(i, what);
    }

    public int approve(int page, int edition, int who)
            throws ArrayIndexOutOfBoundsException, IllegalArgumentException, UnsupportedOperationException {
        if (!isPage(page)) {
            throw new ArrayIndexOutOfBoundsException("no such page");
        }
        if (edition < 0) {
            throw new IllegalArgumentException("an edition is 0 or more");
        }
        if (approvals.isOlder(page, edition) || approvals.has(page, edition, who)) {
            return 0;
        }
        if (approvals.isFull(page, edition)) {
            throw new UnsupportedOperationException("the edition has as many approvals as it may have");
        }
        approvals.add(page, edition, who);
        return 1;
    }

    public boolean approved(int page) throws ArrayIndexOutOfBoundsException {
        if (!isPage(page)) {
            throw new ArrayIndexOutOfBoundsException("no such page");
        }
        return approvals.counts[page] >= ENOUGH_APPROVALS;
    }

    private static boolean isSide(int side) {
        return side >= 0 && side < SIDES;
    }

    private static boolean isPage(int page) {
        return page >= 0 && page < PAGES;
    }

    /** How many of what a rule of this kind looks for there are; the rows must be fresh. */
    private int find(int kind) {
        switch (kind) {
            case 0:
                return surfaces.differingPlaces;
            case 1:
                return surfaces.boxes.mostPlaces();
            case 2:
                return wordRows.countKind(GONE);
            case 3:
                return wordRows.countKind(MOVED) + wordRows.countKind(SHIFTED);
            case 4:
                return pages.countMissing();
            default:
                return pages.countOtherSizes();
        }
    }

    /** The points of both sides, and which places differ by the bounds in force. */
    private static final class Surfaces {
        final Boxes boxes;
        int differingPlaces;
        private final int width;
        private final int height;
        private final int[][] points;
        private final boolean[] differs;
        private int farthest;
        private int near;
        private boolean stale;

        Surfaces(int width, int height) {
            this.width = Math.max(0, Math.min(width, MOST_ALONG));
            this.height = Math.max(0, Math.min(height, MOST_ALONG));
            points = new int[SIDES][this.width * this.height];
            differs = new boolean[this.width * this.height];
            boxes = new Boxes(this.width, this.height);
        }

        boolean holds(int x, int y) {
            return x >= 0 && x < width && y >= 0 && y < height;
        }

        int put(int side, int x, int y, int value) {
            int place = y * width + x;
            int old = points[side][place];
            points[side][place] = value;
            stale = true;
            return old;
        }

        int limit(int newFarthest, int newNear) {
            int old = 10 * farthest + near;
            farthest = newFarthest;
            near = newNear;
            stale = true;
            return old;
        }

        /** Boxes are dear to find and are asked for field by field, so they are kept until a change. */
        void refresh() {
            if (!stale) {
                return;
            }
            differingPlaces = 0;
            for (int y = 0; y < height; y++) {
                for (int x = 0; x < width; x++) {
                    boolean unmet = isUnmetAt(x, y);
                    differs[y * width + x] = unmet;
                    differingPlaces += unmet ? 1 : 0;
                }
            }
            boxes.gather(differs, near + 1);
            stale = false;
        }

        private boolean isUnmetAt(int x, int y) {
            int place = y * width + x;
            int first = points[0][place];
            int second = points[1][place];
            if (isClose(first, second)) {
                return false;
            }
            return !isMet(first, points[1], x, y) || !isMet(second, points[0], x, y);
        }

        private boolean isMet(int value, int[] others, int x, int y) {
            int right = Math.min(width - 1, x + near);
            int bottom = Math.min(height - 1, y + near);
            for (int row = Math.max(0, y - near); row <= bottom; row++) {
                for (int column = Math.max(0, x - near); column <= right; column++) {
                    if (isClose(value, others[row * width + column])) {
                        return true;
                    }
                }
            }
            return false;
        }

        private boolean isClose(int value, int other) {
            return Math.abs(value - other) <= farthest;
        }
    }

    /** The boxes of places that differ, in rows of left, top, right, bottom and how many differ. */
    private static final class Boxes {
        static final int FIELDS = 5;
        private static final int LEFT = 0;
        private static final int TOP = 1;
        private static final int RIGHT = 2;
        private static final int BOTTOM = 3;
        private static final int DIFFERING = 4;

        int count;
        private final int width;
        private final int height;
        private final int most;
        private final int[] rows;
        private final int[] grown;
        private final int[] waitingX;
        private final int[] waitingY;
        private int waiting;

        /** Width and height are 0 .. 32 here: Surfaces has cut them. */
        Boxes(int width, int height) {
            this.width = width;
            this.height = height;
            // Places in a square of two by two always belong together, so there is at most a box for each.
            most = ((width + 1) / 2) * ((height + 1) / 2);
            rows = new int[most * FIELDS];
            grown = new int[FIELDS];
            waitingX = new int[width * height];
            waitingY = new int[width * height];
        }

        int tell(int i, int what) {
            return rows[i * FIELDS + what];
        }

        int mostPlaces() {
            int largest = 0;
            for (int i = 0; i < count; i++) {
                int across = tell(i, RIGHT) - tell(i, LEFT) + 1;
                int down = tell(i, BOTTOM) - tell(i, TOP) + 1;
                largest = Math.max(largest, across * down);
            }
            return largest;
        }

        /** Uses the marks up: a place loses its mark when a box takes it. */
        void gather(boolean[] marks, int reach) {
            count = 0;
            for (int y = 0; y < height; y++) {
                for (int x = 0; x < width; x++) {
                    if (marks[y * width + x]) {
                        growFrom(x, y, marks, reach);
                        absorbAll();
                        keepGrown();
                    }
                }
            }
            sort();
        }

        private void growFrom(int x, int y, boolean[] marks, int reach) {
            grown[LEFT] = x;
            grown[TOP] = y;
            grown[RIGHT] = x;
            grown[BOTTOM] = y;
            waiting = 0;
            take(x, y, marks);
            for (int i = 0; i < waitingX.length && i < waiting; i++) {
                widen(waitingX[i], waitingY[i], waitingX[i], waitingY[i]);
                takeAround(waitingX[i], waitingY[i], marks, reach);
            }
            grown[DIFFERING] = waiting;
        }

        private void takeAround(int x, int y, boolean[] marks, int reach) {
            int right = Math.min(width - 1, x + reach);
            int bottom = Math.min(height - 1, y + reach);
            for (int row = Math.max(0, y - reach); row <= bottom; row++) {
                for (int column = Math.max(0, x - reach); column <= right; column++) {
                    if (marks[row * width + column]) {
                        take(column, row, marks);
                    }
                }
            }
        }

        private void take(int x, int y, boolean[] marks) {
            marks[y * width + x] = false;
            if (waiting < waitingX.length) {
                waitingX[waiting] = x;
                waitingY[waiting] = y;
                waiting++;
            }
        }

        private void widen(int left, int top, int right, int bottom) {
            grown[LEFT] = Math.min(grown[LEFT], left);
            grown[TOP] = Math.min(grown[TOP], top);
            grown[RIGHT] = Math.max(grown[RIGHT], right);
            grown[BOTTOM] = Math.max(grown[BOTTOM], bottom);
        }

        /** A box that has absorbed another may reach a third, so it looks until a round finds none. */
        private void absorbAll() {
            boolean again = true;
            for (int round = 0; again && round <= most; round++) {
                again = absorbRound();
            }
        }

        private boolean absorbRound() {
            boolean found = false;
            for (int i = count - 1; i >= 0; i--) {
                if (sharesPlace(i)) {
                    widen(tell(i, LEFT), tell(i, TOP), tell(i, RIGHT), tell(i, BOTTOM));
                    grown[DIFFERING] += tell(i, DIFFERING);
                    count--;
                    System.arraycopy(rows, count * FIELDS, rows, i * FIELDS, FIELDS);
                    found = true;
                }
            }
            return found;
        }

        private boolean sharesPlace(int i) {
            return grown[LEFT] <= tell(i, RIGHT) && tell(i, LEFT) <= grown[RIGHT]
                    && grown[TOP] <= tell(i, BOTTOM) && tell(i, TOP) <= grown[BOTTOM];
        }

        private void keepGrown() {
            if (count < most) {
                System.arraycopy(grown, 0, rows, count * FIELDS, FIELDS);
                count++;
            }
        }

        private void sort() {
            for (int i = 1; i < count; i++) {
                for (int j = i; j > 0 && comesBefore(j, j - 1); j--) {
                    swap(j, j - 1);
                }
            }
        }

        private boolean comesBefore(int i, int j) {
            if (tell(i, TOP) != tell(j, TOP)) {
                return tell(i, TOP) < tell(j, TOP);
            }
            return tell(i, LEFT) < tell(j, LEFT);
        }

        private void swap(int i, int j) {
            for (int field = 0; field < FIELDS; field++) {
                int kept = rows[i * FIELDS + field];
                rows[i * FIELDS + field] = rows[j * FIELDS + field];
                rows[j * FIELDS + field] = kept;
            }
        }
    }

    /** The words of one side, kept as they came, and their numbers in the order of their places. */
    private static final class WordSide {
        int count;
        private final int[] values = new int[MOST_WORDS];
        private final int[] xs = new int[MOST_WORDS];
        private final int[] ys = new int[MOST_WORDS];
        private final int[] order = new int[MOST_WORDS];

        /** There must be room; the word's number is the answer. */
        int add(int value, int x, int y) {
            int number = count;
            values[number] = value;
            xs[number] = x;
            ys[number] = y;
            int position = number;
            while (position > 0 && liesBehind(order[position - 1], x, y)) {
                order[position] = order[position - 1];
                position--;
            }
            order[position] = number;
            count++;
            return number;
        }

        int numberAt(int position) {
            return order[position];
        }

        int valueAt(int position) {
            return values[order[position]];
        }

        boolean isSamePlace(int position, WordSide other, int otherPosition) {
            int number = order[position];
            int otherNumber = other.order[otherPosition];
            return xs[number] == other.xs[otherNumber] && ys[number] == other.ys[otherNumber];
        }

        private boolean liesBehind(int number, int x, int y) {
            return ys[number] != y ? ys[number] > y : xs[number] > x;
        }
    }

    /** What became of the words, in rows of kind, word, number on side 0 and number on side 1. */
    private static final class WordRows {
        static final int FIELDS = 4;
        private static final int KIND = 0;
        private static final int VALUE = 1;
        private static final int NUMBER_BEFORE = 2;
        private static final int NUMBER_AFTER = 3;
        private static final int NONE = -1;
        /** The kind of a new word's row when the word has turned out to be a moved one. */
        private static final int NOT_TOLD = 0;
        private static final int MOST_ROWS = SIDES * MOST_WORDS;
        private static final int STRIDE = MOST_WORDS + 1;

        int count;
        boolean stale;
        private final WordSide before;
        private final WordSide after;
        private final int[] rows = new int[MOST_ROWS * FIELDS];
        /** At a * STRIDE + b: the longest row of words in both sides from positions a and b on. */
        private final int[] longest = new int[STRIDE * STRIDE];

        WordRows(WordSide before, WordSide after) {
            this.before = before;
            this.after = after;
        }

        int tell(int i, int what) {
            return rows[i * FIELDS + what];
        }

        int countKind(int kind) {
            int found = 0;
            for (int i = 0; i < count; i++) {
                found += tell(i, KIND) == kind ? 1 : 0;
            }
            return found;
        }

        void refresh() {
            if (!stale) {
                return;
            }
            count = 0;
            measure();
            walk();
            pairMoved();
            dropUntold();
            stale = false;
        }

        private void measure() {
            for (int a = before.count; a >= 0; a--) {
                for (int b = after.count; b >= 0; b--) {
                    longest[a * STRIDE + b] = measureAt(a, b);
                }
            }
        }

        private int measureAt(int a, int b) {
            if (a >= before.count || b >= after.count) {
                return 0;
            }
            if (before.valueAt(a) == after.valueAt(b)) {
                return 1 + longest[(a + 1) * STRIDE + b + 1];
            }
            return Math.max(longest[(a + 1) * STRIDE + b], longest[a * STRIDE + b + 1]);
        }

        private void walk() {
            int a = 0;
            int b = 0;
            for (int step = 0; step < MOST_ROWS && (a < before.count || b < after.count); step++) {
                if (isKept(a, b)) {
                    tellIfShifted(a, b);
                    a++;
                    b++;
                } else if (isGone(a, b)) {
                    append(GONE, before.valueAt(a), before.numberAt(a), NONE);
                    a++;
                } else {
                    append(NEW, after.valueAt(b), NONE, after.numberAt(b));
                    b++;
                }
            }
        }

        private boolean isKept(int a, int b) {
            return a < before.count && b < after.count && before.valueAt(a) == after.valueAt(b);
        }

        private boolean isGone(int a, int b) {
            if (a >= before.count) {
                return false;
            }
            return b >= after.count || longest[(a + 1) * STRIDE + b] >= longest[a * STRIDE + b + 1];
        }

        private void tellIfShifted(int a, int b) {
            if (!before.isSamePlace(a, after, b)) {
                append(SHIFTED, before.valueAt(a), before.numberAt(a), after.numberAt(b));
            }
        }

        private void append(int kind, int value, int numberBefore, int numberAfter) {
            if (count < MOST_ROWS) {
                int start = count * FIELDS;
                rows[start + KIND] = kind;
                rows[start + VALUE] = value;
                rows[start + NUMBER_BEFORE] = numberBefore;
                rows[start + NUMBER_AFTER] = numberAfter;
                count++;
            }
        }

        private void pairMoved() {
            for (int i = 0; i < count; i++) {
                if (tell(i, KIND) == GONE) {
                    pairWithFirstNew(i);
                }
            }
        }

        private void pairWithFirstNew(int gone) {
            for (int i = 0; i < count; i++) {
                if (tell(i, KIND) == NEW && tell(i, VALUE) == tell(gone, VALUE)) {
                    rows[gone * FIELDS + KIND] = MOVED;
                    rows[gone * FIELDS + NUMBER_AFTER] = tell(i, NUMBER_AFTER);
                    rows[i * FIELDS + KIND] = NOT_TOLD;
                    return;
                }
            }
        }

        private void dropUntold() {
            int kept = 0;
            for (int i = 0; i < count; i++) {
                if (tell(i, KIND) != NOT_TOLD) {
                    System.arraycopy(rows, i * FIELDS, rows, kept * FIELDS, FIELDS);
                    kept++;
                }
            }
            count = kept;
        }
    }

    /** The sizes of the pages on both sides; a width of 0 stands for a page that is not there. */
    private static final class Pages {
        private final int[][] widths = new int[SIDES][PAGES];
        private final int[][] heights = new int[SIDES][PAGES];

        void put(int side, int page, int width, int height) {
            widths[side][page] = width;
            heights[side][page] = height;
        }

        boolean hasOtherSizes(int page) {
            return isThere(0, page) && isThere(1, page)
                    && (widths[0][page] != widths[1][page] || heights[0][page] != heights[1][page]);
        }

        int countOtherSizes() {
            int found = 0;
            for (int page = 0; page < PAGES; page++) {
                found += hasOtherSizes(page) ? 1 : 0;
            }
            return found;
        }

        int countMissing() {
            int found = 0;
            for (int page = 0; page < PAGES; page++) {
                found += isMissing(page) ? 1 : 0;
            }
            return found;
        }

        /** Twice the i-th missing page and the side that has it not; i must be below their count. */
        int tellMissing(int i) {
            int left = i;
            for (int page = 0; page < PAGES; page++) {
                if (isMissing(page)) {
                    if (left == 0) {
                        return 2 * page + (isThere(0, page) ? 1 : 0);
                    }
                    left--;
                }
            }
            return 0;
        }

        private boolean isThere(int side, int page) {
            return widths[side][page] > 0;
        }

        private boolean isMissing(int page) {
            return isThere(0, page) != isThere(1, page);
        }
    }

    /** The rules, and the faults of the latest check in rows of rule, kind and how many were found. */
    private static final class Rules {
        static final int FAULT_FIELDS = 3;
        private static final int FAILED = -1;

        int count;
        int faultCount;
        final int[] kinds = new int[MOST_RULES];
        final boolean[] fails = new boolean[MOST_RULES];
        private final int[] limits = new int[MOST_RULES];
        private final int[] faults = new int[MOST_RULES * FAULT_FIELDS];

        /** There must be room; the rule's number is the answer. */
        int add(int kind, int limit, boolean failing) {
            int number = count;
            kinds[number] = kind;
            limits[number] = limit;
            fails[number] = failing;
            count++;
            return number;
        }

        int tellFault(int i, int what) {
            return faults[i * FAULT_FIELDS + what];
        }

        void forgetFaults() {
            faultCount = 0;
        }

        void judge(int number, int found) {
            if (found > limits[number]) {
                append(number, kinds[number], found);
            }
        }

        void noteFailure(int number) {
            append(number, FAILED, 0);
        }

        private void append(int number, int kind, int found) {
            if (faultCount < MOST_RULES) {
                int start = faultCount * FAULT_FIELDS;
                faults[start] = number;
                faults[start + 1] = kind;
                faults[start + 2] = found;
                faultCount++;
            }
        }
    }

    /** Who approved of the latest edition of each page; older editions have no approvals left. */
    private static final class Approvals {
        final int[] counts = new int[PAGES];
        private final int[] editions = new int[PAGES];
        private final int[][] people = new int[PAGES][MOST_APPROVALS];

        boolean isOlder(int page, int edition) {
            return counts[page] > 0 && edition < editions[page];
        }

        boolean has(int page, int edition, int who) {
            if (!isLatest(page, edition)) {
                return false;
            }
            for (int i = 0; i < counts[page] && i < MOST_APPROVALS; i++) {
                if (people[page][i] == who) {
                    return true;
                }
            }
            return false;
        }

        boolean isFull(int page, int edition) {
            return isLatest(page, edition) && counts[page] >= MOST_APPROVALS;
        }

        /** The edition must not be older than the latest one, nor full. */
        void add(int page, int edition, int who) {
            if (!isLatest(page, edition)) {
                editions[page] = edition;
                counts[page] = 0;
            }
            people[page][counts[page]] = who;
            counts[page]++;
        }

        private boolean isLatest(int page, int edition) {
            return counts[page] > 0 && editions[page] == edition;
        }
    }
}
