/**
 * Each promise, its answers and its exceptions, on its own and behind calls of line and drop: many ways lead to
 * the same LINES, and behind each of them the answers, worked out by hand, are the same.
 *
 * Each promise is asked of an object of its own, so that nothing but line and drop (and calls that were refused)
 * came before it; then once more behind its exceptions.
 */
public final class LineAndDropTest extends Checks {

    /** A way to some LINES: a row of three numbers is a call of line, a row of one number a call of drop. */
    private record Way(String name, int[]... calls) {

        Plane gone() {
            Plane x = new Plane();
            for (int[] n : calls) {
                try {
                    if (n.length == 3) {
                        x.line(n[0], n[1], n[2]);
                    } else {
                        x.drop(n[0]);
                    }
                } catch (RuntimeException e) {
                    // Some ways have calls that are refused; the answers behind them show whether they should be.
                    continue;
                }
            }
            return x;
        }
    }

    private static final int[] RISE = {1, -1, 0};
    private static final int[] FALL = {1, 1, 0};
    private static final int[] UPRIGHT = {2, 0, -1};

    /**
     * To line 0, x + y = 0, line 1, x - y = 0, and line 2, 2 x - 1 = 0. Its strips are x below 0 (cells 0 .. 4),
     * 0 (5 .. 7), between (8 .. 12), 1/2 (13 .. 17) and above it (18 .. 22).
     */
    private static final Way[] TO_THREE = {
        new Way("on its own", FALL, RISE, UPRIGHT),
        new Way("behind a drop of the first", row(3, 2, 1), FALL, RISE, UPRIGHT, row(0)),
        new Way("behind a drop between", FALL, row(0, 1, -1), RISE, row(1), UPRIGHT),
        new Way("behind a drop of the last", FALL, RISE, UPRIGHT, row(5, -1, 3), row(3)),
        new Way("behind drops from six", row(6, 1, -2), FALL, row(-5, -1, 6), RISE, row(0, 2, -5), UPRIGHT,
                row(4), row(2), row(0)),
        new Way("behind drops of the first of six", row(-4, 5, 6), row(6, 1, -2), row(-5, -1, 6), FALL, RISE, UPRIGHT,
                row(0), row(0), row(0)),
        new Way("behind drops of the last of six", FALL, RISE, UPRIGHT, row(1, 0, 3), row(-1, 0, 3), row(1, 0, 0),
                row(5), row(4), row(3)),
        new Way("behind drops of all six", row(-4, 5, 6), row(6, 1, -2), row(-5, -1, 6), row(1, -1, 4), row(0, 2, -5),
                row(1, 1, 0), row(3), row(0), row(3), row(1), row(1), row(0), FALL, RISE, UPRIGHT),
        new Way("behind drops of the same lines", FALL, RISE, UPRIGHT, FALL, RISE, UPRIGHT, row(1), row(0), row(0)),
        new Way("behind a line that comes again", RISE, FALL, row(0), RISE, UPRIGHT),
        new Way("behind refused calls", row(0), row(0, 0, 1), FALL, row(1), row(7, 0, 0), RISE, row(-1), UPRIGHT,
                row(1, 1, -7), row(3), row(Integer.MAX_VALUE), row(0, 0, 0)),
        new Way("behind a seventh line", FALL, RISE, UPRIGHT, row(2, 2, 1), row(2, 2, 3), row(2, 2, 5), row(1, 2, 3),
                row(5), row(3), row(3))};

    private static final Way[] TO_NONE = {
        new Way("on its own"),
        new Way("behind a line and its drop", row(1, 1, 1), row(0)),
        new Way("behind an upright line and its drop", row(1, 0, 1), row(0)),
        new Way("behind six lines and their drops, the last first", FALL, RISE, UPRIGHT, row(1, 2, 3), row(-1, 2, -3),
                row(0, 3, 2), row(5), row(4), row(3), row(2), row(1), row(0)),
        new Way("behind six lines and their drops, the first first", FALL, RISE, UPRIGHT, row(1, 2, 3), row(-1, 2, -3),
                row(0, 3, 2), row(0), row(0), row(0), row(0), row(0), row(0)),
        new Way("behind refused calls", row(0), row(0, 0, 0), row(-7, 1, 1), FALL, row(1), row(0), row(0))};

    private static int[] row(int... numbers) {
        return numbers;
    }

    private static Plane behind(String promise, Way way) {
        sentence(promise + ", " + way.name + ":");
        return way.gone();
    }

    private static void newObject(Way way) {
        CellProjection before = new CellProjection();
        Plane other = behind("Promise 1", way);
        CellProjection x = new CellProjection();
        due("lines() of an object made before", before::lines, 0);
        due("lines() of an object made behind it", x::lines, 0);
        due("total() of an object made behind it", x::total, 1);
        due("its first line", () -> x.line(6, 0, 6), 0);
        due("its cuts()", x::cuts, 1);
        due("total() of an object made before", before::total, 1);
        dueText("the way's own object", other.picture(), way.gone().picture());
    }

    private static void line(Way way, int lines) {
        Plane x = behind("Promise 2", way);
        refuseLines(x);
        for (int k = lines; k < 6; k++) {
            int number = k;
            due("line(0, 1, " + number + ")", () -> x.line(0, 1, number), number);
        }
        refused(x, "line(1, 1, 1)", y -> y.line(1, 1, 1), STATE);
        refuseLines(x);
        x.drop(2);
        due("line(1, 1, 1) behind a drop", () -> x.line(1, 1, 1), 5);
        due("its sign below all", () -> x.sign(0, 5), -1);
        refused(x, "line(1, 1, 1) behind it", y -> y.line(1, 1, 1), STATE);
    }

    private static void refuseLines(Plane x) {
        int[][] wrong = {{0, 0, 0}, {0, 0, -6}, {7, 1, 1}, {-7, 1, 1}, {1, 7, 1}, {1, -7, 1}, {1, 1, 7}, {1, 1, -7}};
        for (int[] n : wrong) {
            refused(x, "line(" + n[0] + ", " + n[1] + ", " + n[2] + ")", y -> y.line(n[0], n[1], n[2]), ARGUMENT);
        }
    }

    private static void dropOfThree(Way way) {
        Plane x = behind("Promise 3", way);
        for (int n : outside(0, 2)) {
            refused(x, "drop(" + n + ")", y -> dropped(y, n), INDEX);
        }
        // An upright and a leaning line make three strips of three cells; a cross makes 5 + 3 + 5.
        dueRest(way, 0, of(1, -1, 0, 2, 0, -1), 9);
        dueRest(way, 1, of(1, 1, 0, 2, 0, -1), 9);
        dueRest(way, 2, of(1, 1, 0, 1, -1, 0), 13);
    }

    private static void dueRest(Way way, int gone, Plane rest, int cells) {
        Plane x = way.gone();
        due("drop(" + gone + ")", () -> dropped(x, gone), 0);
        due("total() behind drop(" + gone + ")", x::total, cells);
        dueText("behind drop(" + gone + ")", x.picture(), rest.picture());
        refused(x, "drop(2) behind drop(" + gone + ")", y -> dropped(y, 2), INDEX);
    }

    private static void dropOfNone(Way way) {
        Plane x = behind("Promise 3", way);
        for (int n : outside(0, -1)) {
            refused(x, "drop(" + n + ")", y -> dropped(y, n), INDEX);
        }
        refused(x, "drop(0)", y -> dropped(y, 0), INDEX);
    }

    private static void cuts(Way way, int want) {
        Plane x = behind("Promise 4", way);
        due("cuts()", x::cuts, want);
        due("cuts() once more", x::cuts, want);
    }

    private static void cut(Way way, long... parts) {
        Plane x = behind("Promise 5", way);
        int cuts = parts.length / 2;
        for (int round = 0; round < 2; round++) {
            for (int k = 0; k < cuts; k++) {
                dueCut(x, k, parts[2 * k], parts[2 * k + 1]);
                int cut = k;
                for (int part : outside(0, 1)) {
                    dueThrow("cut(" + cut + ", " + part + ")", () -> x.cut(cut, part), ARGUMENT);
                }
            }
            for (int n : outside(0, cuts - 1)) {
                dueThrow("cut(" + n + ", 0)", () -> x.cut(n, 0), INDEX);
                dueThrow("cut(" + n + ", 1)", () -> x.cut(n, 1), INDEX);
                dueThrow("cut(" + n + ", 2)", () -> x.cut(n, 2), INDEX);
            }
        }
    }

    private static void curves(Way way, long... counts) {
        Plane x = behind("Promise 6", way);
        for (int round = 0; round < 2; round++) {
            dueCurves(x, counts);
            for (int n : outside(0, counts.length - 1)) {
                dueThrow("curves(" + n + ")", () -> x.curves(n), INDEX);
            }
        }
    }

    private static void total(Way way, int want) {
        Plane x = behind("Promise 7", way);
        due("total()", x::total, want);
        due("total() once more", x::total, want);
    }

    /** By strip how many cells it has. */
    private static void cell(Way way, int... cells) {
        Plane x = behind("Promise 8", way);
        int next = 0;
        for (int strip = 0; strip < cells.length; strip++) {
            for (int place = 0; place < cells[strip]; place++) {
                dueCell(x, next, strip, place);
                next++;
            }
        }
        for (int n : outside(0, next - 1)) {
            for (int what : new int[] {0, 1, 2, 3, -1}) {
                dueThrow("cell(" + n + ", " + what + ")", () -> x.cell(n, what), INDEX);
            }
        }
        dueCell(x, 0, 0, 0);
    }

    private static void dueCell(Plane x, int cell, int strip, int place) {
        long ways = (strip % 2 == 0 ? 1 : 0) + (place % 2 == 0 ? 1 : 0);
        due("cell(" + cell + ", 0)", () -> x.cell(cell, 0), strip);
        due("cell(" + cell + ", 1)", () -> x.cell(cell, 1), place);
        due("cell(" + cell + ", 2)", () -> x.cell(cell, 2), ways);
        for (int what : outside(0, 2)) {
            dueThrow("cell(" + cell + ", " + what + ")", () -> x.cell(cell, what), ARGUMENT);
        }
    }

    private static void sample(Way way, long[]... samples) {
        Plane x = behind("Promise 9", way);
        for (int round = 0; round < 2; round++) {
            for (int cell = 0; cell < samples.length; cell++) {
                dueSample(x, cell, samples[cell]);
                refuseSamples(x, cell, ARGUMENT);
            }
            for (int n : outside(0, samples.length - 1)) {
                dueThrow("sample(" + n + ", 0, 0)", () -> x.sample(n, 0, 0), INDEX);
                dueThrow("sample(" + n + ", 1, 1)", () -> x.sample(n, 1, 1), INDEX);
                refuseSamples(x, n, INDEX);
            }
        }
    }

    private static void refuseSamples(Plane x, int cell, Class<?> due) {
        for (int other : outside(0, 1)) {
            dueThrow("sample(" + cell + ", " + other + ", 0)", () -> x.sample(cell, other, 0), due);
            dueThrow("sample(" + cell + ", 0, " + other + ")", () -> x.sample(cell, 0, other), due);
            dueThrow("sample(" + cell + ", 1, " + other + ")", () -> x.sample(cell, 1, other), due);
        }
    }

    /** By cell the signs of all lines. */
    private static void sign(Way way, int[]... signs) {
        Plane x = behind("Promise 10", way);
        int lines = signs[0].length;
        for (int k = 0; k < signs.length; k++) {
            int cell = k;
            for (int n = 0; n < lines; n++) {
                int line = n;
                due("sign(" + cell + ", " + line + ")", () -> x.sign(cell, line), signs[cell][line]);
            }
            for (int n : outside(0, lines - 1)) {
                dueThrow("sign(" + cell + ", " + n + ")", () -> x.sign(cell, n), INDEX);
            }
        }
        for (int n : outside(0, signs.length - 1)) {
            for (int k = -1; k <= lines; k++) {
                int line = k;
                dueThrow("sign(" + n + ", " + line + ")", () -> x.sign(n, line), INDEX);
            }
        }
    }

    /** Points, each with its cell behind it. */
    private static void at(Way way, int[]... points) {
        Plane x = behind("Promise 11", way);
        for (int[] n : points) {
            due("at(" + n[0] + ", " + n[1] + ", " + n[2] + ", " + n[3] + ")", () -> x.at(n[0], n[1], n[2], n[3]), n[4]);
            for (int far : new int[] {Integer.MIN_VALUE, -101, 101, Integer.MAX_VALUE}) {
                dueThrow("at(" + far + ", ..)", () -> x.at(far, n[1], n[2], n[3]), ARGUMENT);
                dueThrow("at(.., " + far + ", ..)", () -> x.at(n[0], n[1], far, n[3]), ARGUMENT);
            }
            for (int below : new int[] {Integer.MIN_VALUE, -101, -100, -1, 0, 101, Integer.MAX_VALUE}) {
                dueThrow("at(p, " + below + ", r, s)", () -> x.at(n[0], below, n[2], n[3]), ARGUMENT);
                dueThrow("at(p, q, r, " + below + ")", () -> x.at(n[0], n[1], n[2], below), ARGUMENT);
            }
            due("at once more", () -> x.at(n[0], n[1], n[2], n[3]), n[4]);
        }
    }

    /** What to find, each with its cell behind it. */
    private static void find(Way way, int[]... asked) {
        Plane x = behind("Promise 12", way);
        for (int[] n : asked) {
            due("find(" + n[0] + ")", () -> x.find(n[0]), n[1]);
        }
    }

    private static void touch(Way way, int[]... others) {
        Plane x = behind("Promise 13", way);
        dueTouches(x, others);
        for (int n : outside(0, others.length - 1)) {
            dueThrow("touch(" + n + ", 0)", () -> one(x.touch(n, 0)), INDEX);
            dueThrow("touch(0, " + n + ")", () -> one(x.touch(0, n)), INDEX);
            dueThrow("touch(" + n + ", " + n + ")", () -> one(x.touch(n, n)), INDEX);
        }
    }

    private static void lines(Way way, int want) {
        Plane x = behind("Promise 14", way);
        due("lines()", x::lines, want);
        x.line(3, -2, 1);
        due("lines() behind one line more", x::lines, want + 1);
        x.drop(0);
        due("lines() behind a drop", x::lines, want);
    }

    private static void none(Way way) {
        newObject(way);
        line(way, 0);
        dropOfNone(way);
        cuts(way, 0);
        cut(way);
        curves(way, 0);
        total(way, 1);
        cell(way, 1);
        sample(way, new long[] {0, 1, 0, 1});
        sign(way, row());
        at(way, row(0, 1, 0, 1, 0), row(-100, 1, 100, 1, 0), row(100, 100, -100, 99, 0));
        find(way, row(0, 0), row(1, 0), row(2, 0), row(3, 0), row(-1, 0), row(Integer.MIN_VALUE, 0),
                row(Integer.MAX_VALUE, 0));
        touch(way, row());
        lines(way, 0);
    }

    private static void three(Way way) {
        newObject(way);
        line(way, 3);
        dropOfThree(way);
        cuts(way, 2);
        cut(way, 0, 1, 1, 2);
        curves(way, 2, 1, 2, 2, 2);
        total(way, 23);
        cell(way, 5, 3, 5, 5, 5);
        samplesOfThree(way);
        signsOfThree(way);
        at(way, row(-1, 1, -2, 1, 0), row(-100, 1, -100, 1, 1), row(-1, 100, 0, 1, 2), row(-1, 3, 33, 99, 3),
                row(-1, 1, 2, 1, 4), row(0, 1, -1, 100, 5), row(0, 100, 0, 1, 6), row(0, 7, 100, 1, 7),
                row(49, 100, -50, 100, 8), row(1, 3, -1, 3, 9), row(1, 100, 0, 1, 10), row(33, 99, 1, 3, 11),
                row(49, 100, 49, 99, 12), row(1, 2, -51, 100, 13), row(50, 100, -1, 2, 14), row(1, 2, 49, 99, 15),
                row(1, 2, 50, 100, 16), row(2, 4, 50, 99, 17), row(100, 1, -100, 1, 19), row(51, 100, -52, 100, 18),
                row(50, 99, 1, 2, 20), row(100, 1, 100, 1, 21), row(51, 100, 100, 1, 22));
        find(way, row(0, 0), row(1, 4), row(2, 0), row(3, 3), row(4, 0), row(8, 2), row(12, 1), row(16, 18), row(32, 0),
                row(48, 13), row(5, 10), row(53, 15), row(21, 20), row(10, 2), row(26, -1), row(58, -1), row(15, 6),
                row(47, 6), row(31, -1), row(63, -1), row(7, 9), row(55, 14), row(23, 19), row(13, 11), row(61, 16),
                row(29, 21), row(64, 0), row(-64, 0), row(-1, -1), row(-17, 6), row(Integer.MIN_VALUE, 0),
                row(Integer.MAX_VALUE, -1));
        touch(way, row(1, 5, 6), row(0, 2, 6), row(1, 3, 6), row(2, 4, 6), row(3, 6, 7),
                row(0, 6, 8), row(0, 1, 2, 3, 4, 5, 7, 8, 9, 10, 11, 12), row(4, 6, 12),
                row(5, 6, 9, 13, 14), row(6, 8, 10, 14), row(6, 9, 11, 14, 15, 16), row(6, 10, 12, 16),
                row(6, 7, 11, 16, 17),
                row(8, 14, 18), row(8, 9, 10, 13, 15, 18, 19, 20), row(10, 14, 16, 20),
                row(10, 11, 12, 15, 17, 20, 21, 22), row(12, 16, 22),
                row(13, 14, 19), row(14, 18, 20), row(14, 15, 16, 19, 21), row(16, 20, 22), row(16, 17, 21));
        lines(way, 3);
    }

    private static void samplesOfThree(Way way) {
        sample(way, new long[][] {
            {-1, 1, -2, 1}, {-1, 1, -1, 1}, {-1, 1, 0, 1}, {-1, 1, 1, 1}, {-1, 1, 2, 1},
            {0, 1, -1, 1}, {0, 1, 0, 1}, {0, 1, 1, 1},
            {1, 4, -5, 4}, {1, 4, -1, 4}, {1, 4, 0, 1}, {1, 4, 1, 4}, {1, 4, 5, 4},
            {1, 2, -3, 2}, {1, 2, -1, 2}, {1, 2, 0, 1}, {1, 2, 1, 2}, {1, 2, 3, 2},
            {3, 2, -5, 2}, {3, 2, -3, 2}, {3, 2, 0, 1}, {3, 2, 3, 2}, {3, 2, 5, 2}});
    }

    private static void signsOfThree(Way way) {
        sign(way, new int[][] {
            {-1, 1, -1}, {-1, 0, -1}, {-1, -1, -1}, {0, -1, -1}, {1, -1, -1},
            {-1, 1, -1}, {0, 0, -1}, {1, -1, -1},
            {-1, 1, -1}, {0, 1, -1}, {1, 1, -1}, {1, 0, -1}, {1, -1, -1},
            {-1, 1, 0}, {0, 1, 0}, {1, 1, 0}, {1, 0, 0}, {1, -1, 0},
            {-1, 1, 1}, {0, 1, 1}, {1, 1, 1}, {1, 0, 1}, {1, -1, 1}});
    }

    public static void main(String[] args) {
        for (Way way : TO_NONE) {
            none(way);
        }
        for (Way way : TO_THREE) {
            three(way);
        }
        end();
    }
}
