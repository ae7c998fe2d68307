import java.util.function.LongSupplier;

/** Each promise by hand: ordinary inputs, the edges that the document names, wrong inputs. */
public final class PromiseTest {

    private static final Class<?> INDEX = IndexOutOfBoundsException.class;
    private static final Class<?> ARGUMENT = IllegalArgumentException.class;
    private static final Class<?> STATE = IllegalStateException.class;
    private static final int[] WRONG = {Integer.MIN_VALUE, -1000, -1, 1000, Integer.MAX_VALUE};

    private static int wrong = 0;

    private static void due(String call, LongSupplier got, long want) {
        try {
            long answer = got.getAsLong();
            if (answer != want) {
                tell(call + " answered " + answer + ", due is " + want);
            }
        } catch (RuntimeException e) {
            tell(call + " threw " + e.getClass().getName() + ", due is " + want);
        }
    }

    private static void dueThrow(String call, LongSupplier got, Class<?> want) {
        try {
            tell(call + " answered " + got.getAsLong() + ", due is " + want.getName());
        } catch (RuntimeException e) {
            if (e.getClass() != want) {
                tell(call + " threw " + e.getClass().getName() + ", due is " + want.getName());
            }
        }
    }

    private static void tell(String text) {
        wrong++;
        System.out.println(text);
    }

    private static long one(boolean answer) {
        return answer ? 1 : 0;
    }

    private static long dropped(CellProjection x, int line) {
        x.drop(line);
        return 0;
    }

    private static CellProjection of(int... numbers) {
        CellProjection x = new CellProjection();
        for (int k = 0; k < numbers.length; k += 3) {
            x.line(numbers[k], numbers[k + 1], numbers[k + 2]);
        }
        return x;
    }

    private static CellProjection ofSix() {
        return of(1, 0, -2, 0, 1, -1, 1, 1, 0, 1, -1, 0, 2, 3, -5, 0, 1, -1);
    }

    /** No two of its fifteen points have the same x. */
    private static CellProjection ofMostCuts() {
        return of(-4, 5, 6, 6, 1, -2, -5, -1, 6, 1, -1, 4, 0, 2, -5, 1, 1, 0);
    }

    private static void dueCut(CellProjection x, int k, long above, long below) {
        due("cut(" + k + ", 0)", () -> x.cut(k, 0), above);
        due("cut(" + k + ", 1)", () -> x.cut(k, 1), below);
    }

    private static void dueSample(CellProjection x, int cell, long... want) {
        for (int k = 0; k < 4; k++) {
            int letter = k / 2;
            int part = k % 2;
            due("sample(" + cell + ", " + letter + ", " + part + ")", () -> x.sample(cell, letter, part), want[k]);
        }
    }

    /** All that an object answers, to see that a refused call has changed nothing. */
    private static String picture(CellProjection x) {
        StringBuilder text = new StringBuilder();
        text.append(x.lines()).append('/').append(x.cuts()).append('/').append(x.total());
        for (int k = 0; k < x.cuts(); k++) {
            text.append(' ').append(x.cut(k, 0)).append(':').append(x.cut(k, 1));
        }
        for (int cell = 0; cell < x.total(); cell++) {
            text.append(' ').append(x.cell(cell, 0)).append('.').append(x.cell(cell, 1));
            for (int k = 0; k < x.lines(); k++) {
                text.append(',').append(x.sign(cell, k));
            }
        }
        return text.toString();
    }

    private static void newObject() {
        CellProjection x = new CellProjection();
        due("new lines()", x::lines, 0);
        due("new cuts()", x::cuts, 0);
        due("new total()", x::total, 1);
        due("new curves(0)", () -> x.curves(0), 0);
        due("new cell(0, 0)", () -> x.cell(0, 0), 0);
        due("new cell(0, 1)", () -> x.cell(0, 1), 0);
        due("new cell(0, 2)", () -> x.cell(0, 2), 2);
        dueSample(x, 0, 0, 1, 0, 1);
        due("new at", () -> x.at(-100, 7, 100, 9), 0);
        due("new find(-1)", () -> x.find(-1), 0);
        due("new touch(0, 0)", () -> one(x.touch(0, 0)), 1);
        dueThrow("new sign(0, 0)", () -> x.sign(0, 0), INDEX);
        dueThrow("new drop(0)", () -> dropped(x, 0), INDEX);
        dueThrow("new cut(0, 0)", () -> x.cut(0, 0), INDEX);
    }

    private static void objectsAreApart() {
        CellProjection x = of(1, 0, 0);
        CellProjection y = of(0, 1, 0, 1, 1, 1);
        due("apart x.lines()", x::lines, 1);
        due("apart x.total()", x::total, 3);
        due("apart y.lines()", y::lines, 2);
        due("apart new total()", () -> new CellProjection().total(), 1);
    }

    private static void line() {
        CellProjection x = new CellProjection();
        String before = picture(x);
        int[][] refused = {{0, 0, 0}, {0, 0, 6}, {7, 1, 0}, {-7, 1, 0}, {1, 7, 0}, {1, -7, 0}, {1, 1, 7}, {1, 1, -7},
            {Integer.MIN_VALUE, 1, 1}, {1, Integer.MAX_VALUE, 1}, {1, 1, Integer.MIN_VALUE}};
        for (int[] n : refused) {
            dueThrow("line(" + n[0] + ", " + n[1] + ", " + n[2] + ")", () -> x.line(n[0], n[1], n[2]), ARGUMENT);
        }
        due("line refused changes nothing", () -> one(before.equals(picture(x))), 1);
        int[][] taken = {{6, -6, 6}, {-6, 6, -6}, {1, 0, 0}, {0, 1, 0}, {0, -1, 6}, {-1, 0, -6}};
        for (int k = 0; k < 6; k++) {
            int[] n = taken[k];
            due("line number", () -> x.line(n[0], n[1], n[2]), k);
        }
        String full = picture(x);
        dueThrow("seventh line", () -> x.line(1, 1, 1), STATE);
        for (int[] n : refused) {
            dueThrow("seventh line that can't be one", () -> x.line(n[0], n[1], n[2]), ARGUMENT);
        }
        due("seventh line changes nothing", () -> one(full.equals(picture(x))), 1);
        x.drop(2);
        due("line behind a drop", () -> x.line(1, 1, 1), 5);
    }

    private static void drop() {
        CellProjection x = of(1, 0, -2, 0, 1, -1, 1, 1, 0, 1, -1, 0);
        String before = picture(x);
        for (int n : new int[] {4, 5, 6, -1, Integer.MIN_VALUE, Integer.MAX_VALUE}) {
            dueThrow("drop(" + n + ")", () -> dropped(x, n), INDEX);
        }
        due("drop refused changes nothing", () -> one(before.equals(picture(x))), 1);
        x.drop(1);
        due("drop(1)", () -> one(picture(of(1, 0, -2, 1, 1, 0, 1, -1, 0)).equals(picture(x))), 1);
        x.drop(2);
        due("drop the last", () -> one(picture(of(1, 0, -2, 1, 1, 0)).equals(picture(x))), 1);
        x.drop(0);
        due("drop the first", () -> one(picture(of(1, 1, 0)).equals(picture(x))), 1);
        dueThrow("drop(1) of one", () -> dropped(x, 1), INDEX);
        x.drop(0);
        due("drop the only one", () -> one(picture(new CellProjection()).equals(picture(x))), 1);
        dueThrow("drop(0) of none", () -> dropped(x, 0), INDEX);
    }

    private static void cuts() {
        due("cuts of one leaning line", () -> of(1, 1, 0).cuts(), 0);
        due("cuts of an upright line", () -> of(3, 0, 2).cuts(), 1);
        due("cuts of two that cross", () -> of(1, 1, 0, 1, -1, 0).cuts(), 1);
        due("cuts of two that are parallel", () -> of(1, 1, 0, 2, 2, 5).cuts(), 0);
        due("cuts of two that are the same", () -> of(1, 1, 1, -2, -2, -2).cuts(), 0);
        due("cuts of two uprights", () -> of(1, 0, 0, 1, 0, 1).cuts(), 2);
        due("cuts of an upright twice", () -> of(1, 0, 1, -3, 0, -3).cuts(), 1);
        due("cuts of upright and level", () -> of(1, 0, 1, 0, 1, 1).cuts(), 1);
        due("cuts of three through a point", () -> of(1, 1, 0, 1, -1, 0, 1, 2, 0).cuts(), 1);
        due("cuts of two points over each other", () -> of(1, 1, 0, 1, -1, 0, 1, 1, 2, 1, -1, -2).cuts(), 3);
        due("cuts, the most", () -> ofMostCuts().cuts(), 15);
    }

    private static void cut() {
        CellProjection x = of(3, 0, 2, -4, 0, 6, 1, 1, 0, 6, -2, 4);
        dueCut(x, 0, -2, 3);
        dueCut(x, 1, -1, 2);
        dueCut(x, 2, 3, 2);
        due("cut 0 in lowest terms", () -> of(5, 0, 0).cut(0, 1), 1);
        dueCut(of(6, 6, 0, 6, -6, 6), 0, -1, 2);
        dueCut(of(-6, 5, 6, -5, 6, -6), 0, 6, 1);
        dueCut(of(6, -6, 6, 6, -5, -6), 0, 11, 1);
        for (int k : new int[] {3, 4, -1, 15, 16, Integer.MIN_VALUE, Integer.MAX_VALUE}) {
            dueThrow("cut(" + k + ", 0)", () -> x.cut(k, 0), INDEX);
            dueThrow("cut(" + k + ", 2)", () -> x.cut(k, 2), INDEX);
        }
        for (int part : new int[] {2, -1, Integer.MIN_VALUE, Integer.MAX_VALUE}) {
            dueThrow("cut(0, " + part + ")", () -> x.cut(0, part), ARGUMENT);
        }
    }

    private static void curves() {
        CellProjection x = of(1, 1, 0, 1, -1, 0, 2, 2, 0, 1, 0, 3);
        long[] want = {2, 2, 2, 1, 2};
        for (int k = 0; k < want.length; k++) {
            int strip = k;
            due("curves(" + k + ")", () -> x.curves(strip), want[k]);
        }
        for (int strip : new int[] {5, 6, -1, 31, 32, Integer.MIN_VALUE, Integer.MAX_VALUE}) {
            dueThrow("curves(" + strip + ")", () -> x.curves(strip), INDEX);
        }
        due("curves of uprights", () -> of(1, 0, 0).curves(1), 0);
        due("curves of parallels", () -> of(1, 1, 0, 1, 1, 1, 2, 2, 1, -1, -1, 0).curves(0), 3);
    }

    private static void total() {
        due("total of an upright", () -> of(1, 0, 0).total(), 3);
        due("total of a level one", () -> of(0, 1, 0).total(), 3);
        due("total of a cross", () -> of(1, 1, 0, 1, -1, 0).total(), 13);
        due("total of parallels", () -> of(1, 1, 0, 1, 1, 1).total(), 5);
        due("total of the same twice", () -> of(1, 1, 1, -1, -1, -1).total(), 3);
        // Sixteen strips of six curves, fifteen cuts of five.
        due("total, the most", () -> ofMostCuts().total(), 16 * 13 + 15 * 11);
    }

    private static void cell() {
        CellProjection x = of(1, 1, 0, 1, -1, 0);
        long[][] want = {{0, 0, 2}, {0, 1, 1}, {0, 2, 2}, {0, 3, 1}, {0, 4, 2}, {1, 0, 1}, {1, 1, 0}, {1, 2, 1},
            {2, 0, 2}, {2, 1, 1}, {2, 2, 2}, {2, 3, 1}, {2, 4, 2}};
        for (int k = 0; k < want.length; k++) {
            for (int w = 0; w < 3; w++) {
                int cell = k;
                int what = w;
                due("cell(" + k + ", " + w + ")", () -> x.cell(cell, what), want[k][w]);
            }
        }
        dueThrow("cell(13, 0)", () -> x.cell(13, 0), INDEX);
        for (int n : WRONG) {
            dueThrow("cell(" + n + ", 0)", () -> x.cell(n, 0), INDEX);
            dueThrow("cell(" + n + ", 3)", () -> x.cell(n, 3), INDEX);
            dueThrow("cell(0, " + n + ")", () -> x.cell(0, n), ARGUMENT);
        }
        dueThrow("cell(0, 3)", () -> x.cell(0, 3), ARGUMENT);
    }

    private static void sample() {
        // Cuts -1/2 and 3/2; the only curve is y = (2 x + 1) / 3.
        CellProjection x = of(2, 0, 1, -2, 0, 3, 2, -3, 1);
        dueSample(x, 0, -3, 2, -5, 3);
        dueSample(x, 1, -3, 2, -2, 3);
        dueSample(x, 2, -3, 2, 1, 3);
        dueSample(x, 4, -1, 2, 0, 1);
        dueSample(x, 7, 1, 2, 2, 3);
        dueSample(x, 10, 3, 2, 4, 3);
        dueSample(x, 13, 5, 2, 2, 1);
        dueSample(x, 14, 5, 2, 3, 1);
        dueSample(of(0, 2, -1, 0, 3, -1), 2, 0, 1, 5, 12);
        dueSample(of(1, 0, 3), 2, -2, 1, 0, 1);
        dueSample(of(0, 1, 0, 0, 1, -6, 0, 1, -1), 4, 0, 1, 7, 2);
        dueThrow("sample(15, 0, 0)", () -> x.sample(15, 0, 0), INDEX);
        for (int n : WRONG) {
            dueThrow("sample(" + n + ", 0, 0)", () -> x.sample(n, 0, 0), INDEX);
            dueThrow("sample(" + n + ", 2, 0)", () -> x.sample(n, 2, 0), INDEX);
            dueThrow("sample(" + n + ", 0, 2)", () -> x.sample(n, 0, 2), INDEX);
            dueThrow("sample(0, " + n + ", 0)", () -> x.sample(0, n, 0), ARGUMENT);
            dueThrow("sample(0, 0, " + n + ")", () -> x.sample(0, 0, n), ARGUMENT);
            dueThrow("sample(0, 1, " + n + ")", () -> x.sample(0, 1, n), ARGUMENT);
        }
        dueThrow("sample(0, 2, 0)", () -> x.sample(0, 2, 0), ARGUMENT);
        dueThrow("sample(0, 0, 2)", () -> x.sample(0, 0, 2), ARGUMENT);
    }

    private static void sign() {
        CellProjection x = of(1, 1, 0, -1, 1, 0, 0, -2, 0, -1, 0, 0);
        // From below: strip 0 is left of the cross, its curves are y = x, y = 0, y = -x.
        long[][] want = {{-1, -1, 1, 1}, {-1, 0, 1, 1}, {-1, 1, 1, 1}, {-1, 1, 0, 1}, {-1, 1, -1, 1}, {0, 1, -1, 1},
            {1, 1, -1, 1}, {-1, -1, 1, 0}, {0, 0, 0, 0}, {1, 1, -1, 0}, {-1, -1, 1, -1}, {0, -1, 1, -1},
            {1, -1, 1, -1}, {1, -1, 0, -1}, {1, -1, -1, -1}, {1, 0, -1, -1}, {1, 1, -1, -1}};
        due("sign, total", x::total, want.length);
        for (int k = 0; k < want.length; k++) {
            for (int n = 0; n < 4; n++) {
                int cell = k;
                int line = n;
                due("sign(" + k + ", " + n + ")", () -> x.sign(cell, line), want[k][n]);
            }
        }
        dueThrow("sign(17, 0)", () -> x.sign(17, 0), INDEX);
        dueThrow("sign(0, 4)", () -> x.sign(0, 4), INDEX);
        for (int n : WRONG) {
            dueThrow("sign(" + n + ", 0)", () -> x.sign(n, 0), INDEX);
            dueThrow("sign(0, " + n + ")", () -> x.sign(0, n), INDEX);
        }
    }

    private static void at() {
        CellProjection x = of(1, 1, 0, 1, -1, 0);
        int[][] points = {{-1, 1, -2, 1, 0}, {-1, 1, -1, 1, 1}, {-1, 1, 0, 1, 2}, {-50, 50, 100, 100, 3},
            {-1, 1, 2, 1, 4}, {0, 9, -1, 100, 5}, {0, 1, 0, 7, 6}, {0, 100, 1, 100, 7}, {1, 100, -1, 99, 8},
            {100, 1, -100, 1, 9}, {100, 1, 99, 1, 10}, {100, 3, 100, 3, 11}, {99, 100, 100, 100, 12},
            {-100, 100, 100, 100, 3}};
        for (int[] n : points) {
            due("at(" + n[0] + ", " + n[1] + ", " + n[2] + ", " + n[3] + ")", () -> x.at(n[0], n[1], n[2], n[3]), n[4]);
        }
        int[][] refused = {{101, 1, 0, 1}, {-101, 1, 0, 1}, {0, 101, 0, 1}, {0, 0, 0, 1}, {0, -1, 0, 1},
            {0, 1, 101, 1}, {0, 1, -101, 1}, {0, 1, 0, 101}, {0, 1, 0, 0}, {0, 1, 0, -1}, {0, -101, 0, 1},
            {Integer.MIN_VALUE, 1, 0, 1}, {0, Integer.MAX_VALUE, 0, 1}, {0, 1, Integer.MAX_VALUE, 1},
            {0, 1, 0, Integer.MIN_VALUE}};
        for (int[] n : refused) {
            dueThrow("at(" + n[0] + ", " + n[1] + ", " + n[2] + ", " + n[3] + ")",
                    () -> x.at(n[0], n[1], n[2], n[3]), ARGUMENT);
        }
    }

    private static void find() {
        CellProjection x = of(1, 1, 0, 1, -1, 0);
        int[][] want = {{0, 0}, {1, 4}, {2, 0}, {3, 3}, {4, 0}, {8, 2}, {12, 1}, {5, 9 + 1}, {6, 0}, {9, 4}, {10, 2},
            {15, 6}, {7, 9}, {11, 3}, {13, 11}, {14, 1}, {16, 0}, {-1, 6}, {-16, 0}, {0x7FFFFFF5, 10},
            {Integer.MIN_VALUE, 0}};
        for (int[] n : want) {
            due("find(" + n[0] + ")", () -> x.find(n[0]), n[1]);
        }
        CellProjection parallel = of(0, 1, 0, 0, 1, -1);
        due("find both 0 of parallels", () -> parallel.find(15), -1);
        due("find below the lower, above the upper", () -> parallel.find(6), -1);
        due("find bits beyond", () -> parallel.find(-16), 0);
        due("find the sixth", () -> ofSix().find(3 << 10), ofSix().find(3 << 2));
        due("find, bits behind the sixth", () -> ofSix().find(-1 << 12), 0);
        due("find all six 0", () -> of(1, 0, 0, 0, 1, 0, 1, 1, 0, 1, -1, 0, 2, 1, 0, 1, 2, 0).find(0xFFF), 12);
        due("find in uprights", () -> of(-1, 0, 1).find(1), 0);
    }

    private static void touch() {
        CellProjection x = of(1, 1, 0, 1, -1, 0);
        // By cell: the others that it touches.
        int[][] want = {{1, 5, 6}, {0, 2, 6}, {1, 3, 6}, {2, 4, 6}, {3, 6, 7}, {0, 6, 8}, {0, 1, 2, 3, 4, 5, 7, 8, 9,
            10, 11, 12}, {4, 6, 12}, {5, 6, 9}, {6, 8, 10}, {6, 9, 11}, {6, 10, 12}, {6, 7, 11}};
        for (int k = 0; k < want.length; k++) {
            long touched = 1L << k;
            for (int n : want[k]) {
                touched |= 1L << n;
            }
            for (int n = 0; n < want.length; n++) {
                int one = k;
                int other = n;
                due("touch(" + k + ", " + n + ")", () -> one(x.touch(one, other)), touched >> n & 1);
            }
        }
        dueThrow("touch(13, 0)", () -> one(x.touch(13, 0)), INDEX);
        dueThrow("touch(0, 13)", () -> one(x.touch(0, 13)), INDEX);
        for (int n : WRONG) {
            dueThrow("touch(" + n + ", 0)", () -> one(x.touch(n, 0)), INDEX);
            dueThrow("touch(0, " + n + ")", () -> one(x.touch(0, n)), INDEX);
            dueThrow("touch(" + n + ", " + n + ")", () -> one(x.touch(n, n)), INDEX);
        }
    }

    private static void lines() {
        CellProjection x = new CellProjection();
        for (int k = 0; k < 6; k++) {
            due("lines()", x::lines, k);
            x.line(1, 1, 1);
        }
        due("lines() when full", x::lines, 6);
        x.drop(3);
        due("lines() behind a drop", x::lines, 5);
    }

    private static void manyCalls() {
        CellProjection x = ofSix();
        String before = picture(ofSix());
        for (int k = 0; k < 250; k++) {
            x.drop(5);
            due("line again", () -> x.line(0, 1, -1), 5);
        }
        due("after many calls", () -> one(before.equals(picture(x))), 1);
    }

    public static void main(String[] args) {
        newObject();
        objectsAreApart();
        line();
        drop();
        cuts();
        cut();
        curves();
        total();
        cell();
        sample();
        sign();
        at();
        find();
        touch();
        lines();
        manyCalls();
        System.out.println(wrong == 0 ? "all answers are as due" : wrong + " answers are not as due");
        if (wrong != 0) {
            System.exit(1);
        }
    }
}
