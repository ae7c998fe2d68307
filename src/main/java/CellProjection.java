/**
 * The plane cut into cells by up to six lines, as DOC.md promises it.
 *
 * All rows are made in the constructor and filled anew whenever a line comes or goes,
 * so that no later call makes an object.
 */
public final class CellProjection {

    private static final int MOST_LINES = 6;
    // Six leaning lines meet at fifteen x at most; with upright ones among them there are fewer.
    private static final int MOST_CUTS = 15;
    private static final int MOST_STRIPS = 2 * MOST_CUTS + 1;
    private static final int LARGEST_FACTOR = 6;
    private static final int FARTHEST = 100;
    // The place of an upright line, which is no curve.
    private static final int NOWHERE = -1;
    private static final int WANT_ANY = 0;
    private static final int WANT_ABOVE = 1;
    private static final int WANT_BELOW = 2;
    private static final int WANT_ZERO = 3;

    private final int[] a;
    private final int[] b;
    private final int[] c;
    private int lineCount;

    private final Marks cutMarks;
    // Filled for one x at a time, by whichever call needs it.
    private final Marks heights;
    private final long[] sampleAbove;
    private final long[] sampleBelow;
    // By strip and line: which cell of the strip the line is.
    private final int[][] places;
    // One entry more than there are strips: the one behind the last strip is the number of all cells.
    private final int[] firstCell;

    public CellProjection() {
        a = new int[MOST_LINES];
        b = new int[MOST_LINES];
        c = new int[MOST_LINES];
        lineCount = 0;
        cutMarks = new Marks();
        heights = new Marks();
        sampleAbove = new long[MOST_STRIPS];
        sampleBelow = new long[MOST_STRIPS];
        places = new int[MOST_STRIPS][MOST_LINES];
        firstCell = new int[MOST_STRIPS + 1];
        rebuild();
    }

    public int line(int a, int b, int c) throws IllegalArgumentException, IllegalStateException {
        if (!isFactor(a) || !isFactor(b) || !isFactor(c)) {
            throw new IllegalArgumentException("a number of a line is not -6 .. 6");
        }
        if (a == 0 && b == 0) {
            throw new IllegalArgumentException("a and b are both 0");
        }
        if (lineCount >= MOST_LINES) {
            throw new IllegalStateException("there are 6 lines");
        }
        int number = lineCount;
        this.a[number] = a;
        this.b[number] = b;
        this.c[number] = c;
        lineCount = number + 1;
        rebuild();
        return number;
    }

    public void drop(int line) throws IndexOutOfBoundsException {
        if (!isLine(line)) {
            throw new IndexOutOfBoundsException("no such line");
        }
        for (int k = line + 1; k < lineCount; k++) {
            a[k - 1] = a[k];
            b[k - 1] = b[k];
            c[k - 1] = c[k];
        }
        lineCount--;
        rebuild();
    }

    public int cuts() {
        return cutMarks.count;
    }

    public long cut(int k, int part) throws IndexOutOfBoundsException, IllegalArgumentException {
        if (k < 0 || k >= cutMarks.count) {
            throw new IndexOutOfBoundsException("no such cut");
        }
        if (!isPart(part)) {
            throw new IllegalArgumentException("a part is 0 or 1");
        }
        return cutMarks.samplePart(2 * k + 1, part);
    }

    public int curves(int strip) throws IndexOutOfBoundsException {
        if (strip < 0 || strip >= stripCount()) {
            throw new IndexOutOfBoundsException("no such strip");
        }
        return cellsOf(strip) / 2;
    }

    public int total() {
        return firstCell[stripCount()];
    }

    public int cell(int cell, int what) throws IndexOutOfBoundsException, IllegalArgumentException {
        if (!isCell(cell)) {
            throw new IndexOutOfBoundsException("no such cell");
        }
        int strip = stripOf(cell);
        int place = cell - firstCell[strip];
        switch (what) {
            case 0:
                return strip;
            case 1:
                return place;
            case 2:
                // An odd strip is a cut and an odd place a curve; each takes one way away.
                return 2 - strip % 2 - place % 2;
            default:
                throw new IllegalArgumentException("what is 0, 1 or 2");
        }
    }

    public long sample(int cell, int letter, int part) throws IndexOutOfBoundsException, IllegalArgumentException {
        if (!isCell(cell)) {
            throw new IndexOutOfBoundsException("no such cell");
        }
        if (letter < 0 || letter > 1) {
            throw new IllegalArgumentException("a letter is 0 or 1");
        }
        if (!isPart(part)) {
            throw new IllegalArgumentException("a part is 0 or 1");
        }
        int strip = stripOf(cell);
        if (letter == 0) {
            return part == 0 ? sampleAbove[strip] : sampleBelow[strip];
        }
        measureHeights(sampleAbove[strip], sampleBelow[strip]);
        return heights.samplePart(cell - firstCell[strip], part);
    }

    public int sign(int cell, int line) throws IndexOutOfBoundsException {
        if (!isCell(cell)) {
            throw new IndexOutOfBoundsException("no such cell");
        }
        if (!isLine(line)) {
            throw new IndexOutOfBoundsException("no such line");
        }
        int strip = stripOf(cell);
        return signIn(strip, cell - firstCell[strip], line);
    }

    public int at(int p, int q, int r, int s) throws IllegalArgumentException {
        if (!isNear(p) || !isNear(q) || !isNear(r) || !isNear(s)) {
            throw new IllegalArgumentException("a number of a point is not -100 .. 100");
        }
        if (q < 1 || s < 1) {
            throw new IllegalArgumentException("q or s is below 1");
        }
        measureHeights(p, q);
        return firstCell[cutMarks.pieceOf(p, q)] + heights.pieceOf(r, s);
    }

    public int find(int signs) {
        int strips = stripCount();
        for (int strip = 0; strip < strips; strip++) {
            int cells = cellsOf(strip);
            for (int place = 0; place < cells; place++) {
                if (hasSigns(strip, place, signs)) {
                    return firstCell[strip] + place;
                }
            }
        }
        return -1;
    }

    public boolean touch(int one, int other) throws IndexOutOfBoundsException {
        if (!isCell(one) || !isCell(other)) {
            throw new IndexOutOfBoundsException("no such cell");
        }
        int oneStrip = stripOf(one);
        int otherStrip = stripOf(other);
        int onePlace = one - firstCell[oneStrip];
        int otherPlace = other - firstCell[otherStrip];
        if (oneStrip == otherStrip) {
            return Math.abs(onePlace - otherPlace) <= 1;
        }
        if (Math.abs(oneStrip - otherStrip) != 1) {
            return false;
        }
        return oneStrip % 2 == 1
                ? reaches(otherStrip, otherPlace, oneStrip, onePlace)
                : reaches(oneStrip, onePlace, otherStrip, otherPlace);
    }

    public int lines() {
        return lineCount;
    }

    private static boolean isFactor(int number) {
        return number >= -LARGEST_FACTOR && number <= LARGEST_FACTOR;
    }

    private static boolean isNear(int number) {
        return number >= -FARTHEST && number <= FARTHEST;
    }

    private static boolean isPart(int part) {
        return part == 0 || part == 1;
    }

    private boolean isLine(int number) {
        return number >= 0 && number < lineCount;
    }

    private boolean isCell(int number) {
        return number >= 0 && number < firstCell[stripCount()];
    }

    private int stripCount() {
        return 2 * cutMarks.count + 1;
    }

    private int cellsOf(int strip) {
        return firstCell[strip + 1] - firstCell[strip];
    }

    private int stripOf(int cell) {
        int last = stripCount() - 1;
        for (int strip = 0; strip < last; strip++) {
            if (cell < firstCell[strip + 1]) {
                return strip;
            }
        }
        return last;
    }

    private void rebuild() {
        gatherCuts();
        int strips = stripCount();
        firstCell[0] = 0;
        for (int strip = 0; strip < strips; strip++) {
            layStrip(strip);
        }
    }

    private void gatherCuts() {
        cutMarks.count = 0;
        for (int i = 0; i < lineCount; i++) {
            if (b[i] == 0) {
                addCut(-c[i], a[i]);
            }
            for (int j = 0; j < i; j++) {
                addCut(b[i] * c[j] - b[j] * c[i], a[i] * b[j] - a[j] * b[i]);
            }
        }
    }

    private void addCut(int above, int below) {
        // Below is 0 for two lines that are parallel: they bring no cut.
        if (below > 0) {
            cutMarks.insert(above, below);
        } else if (below < 0) {
            cutMarks.insert(-above, -below);
        }
    }

    /** No lines cross inside a strip, so their order at its sample is their order at all its x. */
    private void layStrip(int strip) {
        long above = cutMarks.samplePart(strip, 0);
        long below = cutMarks.samplePart(strip, 1);
        sampleAbove[strip] = above;
        sampleBelow[strip] = below;
        measureHeights(above, below);
        for (int k = 0; k < lineCount; k++) {
            places[strip][k] = b[k] == 0
                    ? NOWHERE
                    : heights.pieceOf(heightAbove(k, above, below), heightBelow(k, below));
        }
        firstCell[strip + 1] = firstCell[strip] + 2 * heights.count + 1;
    }

    private void measureHeights(long xAbove, long xBelow) {
        heights.count = 0;
        for (int k = 0; k < lineCount; k++) {
            if (b[k] != 0) {
                heights.insert(heightAbove(k, xAbove, xBelow), heightBelow(k, xBelow));
            }
        }
    }

    private long heightAbove(int line, long xAbove, long xBelow) {
        long rest = a[line] * xAbove + c[line] * xBelow;
        return b[line] > 0 ? -rest : rest;
    }

    private long heightBelow(int line, long xBelow) {
        return Math.abs(b[line]) * xBelow;
    }

    /** Exactly 1, 0 or -1, which the library does not promise of its compare. */
    private static int signOf(long number) {
        if (number == 0) {
            return 0;
        }
        return number > 0 ? 1 : -1;
    }

    private int signIn(int strip, int place, int line) {
        if (b[line] == 0) {
            return signOf(a[line] * sampleAbove[strip] + c[line] * sampleBelow[strip]);
        }
        int side = signOf(place - places[strip][line]);
        return b[line] > 0 ? side : -side;
    }

    private boolean hasSigns(int strip, int place, int signs) {
        for (int k = 0; k < lineCount; k++) {
            int wanted = (signs >> (2 * k)) & 3;
            if (wanted != WANT_ANY && wanted != wantFor(signIn(strip, place, k))) {
                return false;
            }
        }
        return true;
    }

    private static int wantFor(int sign) {
        if (sign == 0) {
            return WANT_ZERO;
        }
        return sign > 0 ? WANT_ABOVE : WANT_BELOW;
    }

    /**
     * Whether a cell of a strip that is no cut comes as near as you like to a cell of the cut beside it.
     * On the way to the cut a cell may come to lie on a curve, but it never gets to the curve's other side.
     * Upright lines have their place below all cells in both strips, so they never stand in the way.
     */
    private boolean reaches(int strip, int place, int cutStrip, int cutPlace) {
        for (int k = 0; k < lineCount; k++) {
            int side = signOf(place - places[strip][k]);
            int cutSide = signOf(cutPlace - places[cutStrip][k]);
            if (cutSide != 0 && cutSide != side) {
                return false;
            }
        }
        return true;
    }

    /**
     * Fractions, rising, that cut an axis into pieces: 0 is all below the first mark, 1 is that mark,
     * 2 all between it and the next one, and so on. The number below a fraction's bar is above 0.
     */
    private static final class Marks {

        // Euclid's way with two longs takes fewer than a hundred divisions.
        private static final int MOST_DIVISIONS = 100;

        private final long[] above;
        private final long[] below;
        private int count;

        Marks() {
            above = new long[MOST_CUTS];
            below = new long[MOST_CUTS];
            count = 0;
        }

        /** A fraction that is a mark already stays one mark. */
        void insert(long markAbove, long markBelow) {
            int piece = pieceOf(markAbove, markBelow);
            if (piece % 2 == 1 || count >= MOST_CUTS) {
                return;
            }
            int place = piece / 2;
            for (int k = count; k > place; k--) {
                above[k] = above[k - 1];
                below[k] = below[k - 1];
            }
            above[place] = markAbove;
            below[place] = markBelow;
            count++;
        }

        int pieceOf(long pointAbove, long pointBelow) {
            for (int k = 0; k < count; k++) {
                int order = Long.compare(pointAbove * below[k], above[k] * pointBelow);
                if (order <= 0) {
                    return order == 0 ? 2 * k + 1 : 2 * k;
                }
            }
            return 2 * count;
        }

        /** A part of the fraction that stands for a piece. */
        long samplePart(int piece, int part) {
            if (count <= 0) {
                return reduced(0, 1, part);
            }
            if (piece <= 0) {
                return reduced(above[0] - below[0], below[0], part);
            }
            int k = piece / 2;
            if (k >= count) {
                return reduced(above[count - 1] + below[count - 1], below[count - 1], part);
            }
            if (piece % 2 == 1) {
                return reduced(above[k], below[k], part);
            }
            long sum = above[k - 1] * below[k] + above[k] * below[k - 1];
            return reduced(sum, 2 * below[k - 1] * below[k], part);
        }

        private static long reduced(long above, long below, int part) {
            long divisor = commonDivisor(Math.abs(above), below);
            return (part == 0 ? above : below) / divisor;
        }

        /** At least 1, whatever the numbers are, so that one may always divide by it. */
        private static long commonDivisor(long one, long other) {
            long large = one;
            long small = other;
            for (int step = 0; step < MOST_DIVISIONS && small != 0; step++) {
                long rest = large % small;
                large = small;
                small = rest;
            }
            return Math.max(large, 1);
        }
    }
}
