/** Each promise by hand: ordinary inputs, the edges that the document names, wrong inputs. */
public final class PromiseTest extends Checks {

    private static final int[] WRONG = {Integer.MIN_VALUE, -1000, -1, 1000, Integer.MAX_VALUE};

    private static Plane ofSix() {
        return of(1, 0, -2, 0, 1, -1, 1, 1, 0, 1, -1, 0, 2, 3, -5, 0, 1, -1);
    }

    /** No two of its fifteen points have the same x. */
    private static Plane ofMostCuts() {
        return of(-4, 5, 6, 6, 1, -2, -5, -1, 6, 1, -1, 4, 0, 2, -5, 1, 1, 0);
    }

    private static void newObject() {
        Plane x = new Plane();
        due("new lines()", x::lines, 0);
        due("new cuts()", x::cuts, 0);
        due("new total()", x::total, 1);
        due("new curves(0)", () -> x.curves(0), 0);
        due("new cell(0, 0)", () -> x.cell(0, 0), 0);
        due("new cell(0, 1)", () -> x.cell(0, 1), 0);
        due("new cell(0, 2)", () -> x.cell(0, 2), 2);
        dueSample(x, 0, 0, 1, 0, 1);
        due("new at", () -> x.at(-100, 7, 100, 9), 0);
        due("new find(-1)", () -> x.find(-1), 0);
        due("new touch(0, 0)", () -> one(x.touch(0, 0)), 1);
        dueThrow("new sign(0, 0)", () -> x.sign(0, 0), INDEX);
        dueThrow("new drop(0)", () -> dropped(x, 0), INDEX);
        dueThrow("new cut(0, 0)", () -> x.cut(0, 0), INDEX);
    }

    private static void objectsAreApart() {
        Plane x = of(1, 0, 0);
        Plane y = of(0, 1, 0, 1, 1, 1);
        due("apart x.lines()", x::lines, 1);
        due("apart x.total()", x::total, 3);
        due("apart y.lines()", y::lines, 2);
        due("apart new total()", () -> new Plane().total(), 1);
    }

    private static void line() {
        Plane x = new Plane();
        String before = x.picture();
        int[][] refused = {{0, 0, 0}, {0, 0, 6}, {7, 1, 0}, {-7, 1, 0}, {1, 7, 0}, {1, -7, 0}, {1, 1, 7}, {1, 1, -7},
            {Integer.MIN_VALUE, 1, 1}, {1, Integer.MAX_VALUE, 1}, {1, 1, Integer.MIN_VALUE}};
        for (int[] n : refused) {
            dueThrow("line(" + n[0] + ", " + n[1] + ", " + n[2] + ")", () -> x.line(n[0], n[1], n[2]), ARGUMENT);
        }
        due("line refused changes nothing", () -> one(before.equals(x.picture())), 1);
        int[][] taken = {{6, -6, 6}, {-6, 6, -6}, {1, 0, 0}, {0, 1, 0}, {0, -1, 6}, {-1, 0, -6}};
        for (int k = 0; k < 6; k++) {
            int[] n = taken[k];
            due("line number", () -> x.line(n[0], n[1], n[2]), k);
        }
        String full = x.picture();
        dueThrow("seventh line", () -> x.line(1, 1, 1), STATE);
        for (int[] n : refused) {
            dueThrow("seventh line that can't be one", () -> x.line(n[0], n[1], n[2]), ARGUMENT);
        }
        due("seventh line changes nothing", () -> one(full.equals(x.picture())), 1);
        x.drop(2);
        due("line behind a drop", () -> x.line(1, 1, 1), 5);
    }

    private static void drop() {
        Plane x = of(1, 0, -2, 0, 1, -1, 1, 1, 0, 1, -1, 0);
        String before = x.picture();
        for (int n : new int[] {4, 5, 6, -1, Integer.MIN_VALUE, Integer.MAX_VALUE}) {
            dueThrow("drop(" + n + ")", () -> dropped(x, n), INDEX);
        }
        due("drop refused changes nothing", () -> one(before.equals(x.picture())), 1);
        x.drop(1);
        due("drop(1)", () -> one(of(1, 0, -2, 1, 1, 0, 1, -1, 0).picture().equals(x.picture())), 1);
        x.drop(2);
        due("drop the last", () -> one(of(1, 0, -2, 1, 1, 0).picture().equals(x.picture())), 1);
        x.drop(0);
        due("drop the first", () -> one(of(1, 1, 0).picture().equals(x.picture())), 1);
        dueThrow("drop(1) of one", () -> dropped(x, 1), INDEX);
        x.drop(0);
        due("drop the only one", () -> one(new Plane().picture().equals(x.picture())), 1);
        dueThrow("drop(0) of none", () -> dropped(x, 0), INDEX);
    }

    private static void cuts() {
        due("cuts of one leaning line", () -> of(1, 1, 0).cuts(), 0);
        due("cuts of an upright line", () -> of(3, 0, 2).cuts(), 1);
        due("cuts of two that cross", () -> of(1, 1, 0, 1, -1, 0).cuts(), 1);
        due("cuts of two that are parallel", () -> of(1, 1, 0, 2, 2, 5).cuts(), 0);
        due("cuts of two that are the same", () -> of(1, 1, 1, -2, -2, -2).cuts(), 0);
        due("cuts of two uprights", () -> of(1, 0, 0, 1, 0, 1).cuts(), 2);
        due("cuts of an upright twice", () -> of(1, 0, 1, -3, 0, -3).cuts(), 1);
        due("cuts of upright and level", () -> of(1, 0, 1, 0, 1, 1).cuts(), 1);
        due("cuts of three through a point", () -> of(1, 1, 0, 1, -1, 0, 1, 2, 0).cuts(), 1);
        due("cuts of two points over each other", () -> of(1, 1, 0, 1, -1, 0, 1, 1, 2, 1, -1, -2).cuts(), 3);
        due("cuts, the most", () -> ofMostCuts().cuts(), 15);
    }

    private static void cut() {
        Plane x = of(3, 0, 2, -4, 0, 6, 1, 1, 0, 6, -2, 4);
        dueCut(x, 0, -2, 3);
        dueCut(x, 1, -1, 2);
        dueCut(x, 2, 3, 2);
        due("cut 0 in lowest terms", () -> of(5, 0, 0).cut(0, 1), 1);
        dueCut(of(6, 6, 0, 6, -6, 6), 0, -1, 2);
        dueCut(of(-6, 5, 6, -5, 6, -6), 0, 6, 1);
        dueCut(of(6, -6, 6, 6, -5, -6), 0, 11, 1);
        for (int k : new int[] {3, 4, -1, 15, 16, Integer.MIN_VALUE, Integer.MAX_VALUE}) {
            dueThrow("cut(" + k + ", 0)", () -> x.cut(k, 0), INDEX);
            dueThrow("cut(" + k + ", 2)", () -> x.cut(k, 2), INDEX);
        }
        for (int part : new int[] {2, -1, Integer.MIN_VALUE, Integer.MAX_VALUE}) {
            dueThrow("cut(0, " + part + ")", () -> x.cut(0, part), ARGUMENT);
        }
    }

    private static void curves() {
        Plane x = of(1, 1, 0, 1, -1, 0, 2, 2, 0, 1, 0, 3);
        long[] want = {2, 2, 2, 1, 2};
        for (int k = 0; k < want.length; k++) {
            int strip = k;
            due("curves(" + k + ")", () -> x.curves(strip), want[k]);
        }
        for (int strip : new int[] {5, 6, -1, 31, 32, Integer.MIN_VALUE, Integer.MAX_VALUE}) {
            dueThrow("curves(" + strip + ")", () -> x.curves(strip), INDEX);
        }
        due("curves of uprights", () -> of(1, 0, 0).curves(1), 0);
        due("curves of parallels", () -> of(1, 1, 0, 1, 1, 1, 2, 2, 1, -1, -1, 0).curves(0), 3);
    }

    private static void total() {
        due("total of an upright", () -> of(1, 0, 0).total(), 3);
        due("total of a level one", () -> of(0, 1, 0).total(), 3);
        due("total of a cross", () -> of(1, 1, 0, 1, -1, 0).total(), 13);
        due("total of parallels", () -> of(1, 1, 0, 1, 1, 1).total(), 5);
        due("total of the same twice", () -> of(1, 1, 1, -1, -1, -1).total(), 3);
        // Sixteen strips of six curves, fifteen cuts of five.
        due("total, the most", () -> ofMostCuts().total(), 16 * 13 + 15 * 11);
    }

    private static void cell() {
        Plane x = of(1, 1, 0, 1, -1, 0);
        long[][] want = {{0, 0, 2}, {0, 1, 1}, {0, 2, 2}, {0, 3, 1}, {0, 4, 2}, {1, 0, 1}, {1, 1, 0}, {1, 2, 1},
            {2, 0, 2}, {2, 1, 1}, {2, 2, 2}, {2, 3, 1}, {2, 4, 2}};
        for (int k = 0; k < want.length; k++) {
            for (int w = 0; w < 3; w++) {
                int cell = k;
                int what = w;
                due("cell(" + k + ", " + w + ")", () -> x.cell(cell, what), want[k][w]);
            }
        }
        dueThrow("cell(13, 0)", () -> x.cell(13, 0), INDEX);
        for (int n : WRONG) {
            dueThrow("cell(" + n + ", 0)", () -> x.cell(n, 0), INDEX);
            dueThrow("cell(" + n + ", 3)", () -> x.cell(n, 3), INDEX);
            dueThrow("cell(0, " + n + ")", () -> x.cell(0, n), ARGUMENT);
        }
        dueThrow("cell(0, 3)", () -> x.cell(0, 3), ARGUMENT);
    }

    private static void sample() {
        // Cuts -1/2 and 3/2; the only curve is y = (2 x + 1) / 3.
        Plane x = of(2, 0, 1, -2, 0, 3, 2, -3, 1);
        dueSample(x, 0, -3, 2, -5, 3);
        dueSample(x, 1, -3, 2, -2, 3);
        dueSample(x, 2, -3, 2, 1, 3);
        dueSample(x, 4, -1, 2, 0, 1);
        dueSample(x, 7, 1, 2, 2, 3);
        dueSample(x, 10, 3, 2, 4, 3);
        dueSample(x, 13, 5, 2, 2, 1);
        dueSample(x, 14, 5, 2, 3, 1);
        dueSample(of(0, 2, -1, 0, 3, -1), 2, 0, 1, 5, 12);
        dueSample(of(1, 0, 3), 2, -2, 1, 0, 1);
        dueSample(of(0, 1, 0, 0, 1, -6, 0, 1, -1), 4, 0, 1, 7, 2);
        dueThrow("sample(15, 0, 0)", () -> x.sample(15, 0, 0), INDEX);
        for (int n : WRONG) {
            dueThrow("sample(" + n + ", 0, 0)", () -> x.sample(n, 0, 0), INDEX);
            dueThrow("sample(" + n + ", 2, 0)", () -> x.sample(n, 2, 0), INDEX);
            dueThrow("sample(" + n + ", 0, 2)", () -> x.sample(n, 0, 2), INDEX);
            dueThrow("sample(0, " + n + ", 0)", () -> x.sample(0, n, 0), ARGUMENT);
            dueThrow("sample(0, 0, " + n + ")", () -> x.sample(0, 0, n), ARGUMENT);
            dueThrow("sample(0, 1, " + n + ")", () -> x.sample(0, 1, n), ARGUMENT);
        }
        dueThrow("sample(0, 2, 0)", () -> x.sample(0, 2, 0), ARGUMENT);
        dueThrow("sample(0, 0, 2)", () -> x.sample(0, 0, 2), ARGUMENT);
    }

    private static void sign() {
        Plane x = of(1, 1, 0, -1, 1, 0, 0, -2, 0, -1, 0, 0);
        // From below: strip 0 is left of the cross, its curves are y = x, y = 0, y = -x.
        long[][] want = {{-1, -1, 1, 1}, {-1, 0, 1, 1}, {-1, 1, 1, 1}, {-1, 1, 0, 1}, {-1, 1, -1, 1}, {0, 1, -1, 1},
            {1, 1, -1, 1}, {-1, -1, 1, 0}, {0, 0, 0, 0}, {1, 1, -1, 0}, {-1, -1, 1, -1}, {0, -1, 1, -1},
            {1, -1, 1, -1}, {1, -1, 0, -1}, {1, -1, -1, -1}, {1, 0, -1, -1}, {1, 1, -1, -1}};
        due("sign, total", x::total, want.length);
        for (int k = 0; k < want.length; k++) {
            for (int n = 0; n < 4; n++) {
                int cell = k;
                int line = n;
                due("sign(" + k + ", " + n + ")", () -> x.sign(cell, line), want[k][n]);
            }
        }
        dueThrow("sign(17, 0)", () -> x.sign(17, 0), INDEX);
        dueThrow("sign(0, 4)", () -> x.sign(0, 4), INDEX);
        for (int n : WRONG) {
            dueThrow("sign(" + n + ", 0)", () -> x.sign(n, 0), INDEX);
            dueThrow("sign(0, " + n + ")", () -> x.sign(0, n), INDEX);
        }
    }

    private static void at() {
        Plane x = of(1, 1, 0, 1, -1, 0);
        int[][] points = {{-1, 1, -2, 1, 0}, {-1, 1, -1, 1, 1}, {-1, 1, 0, 1, 2}, {-50, 50, 100, 100, 3},
            {-1, 1, 2, 1, 4}, {0, 9, -1, 100, 5}, {0, 1, 0, 7, 6}, {0, 100, 1, 100, 7}, {1, 100, -1, 99, 8},
            {100, 1, -100, 1, 9}, {100, 1, 99, 1, 10}, {100, 3, 100, 3, 11}, {99, 100, 100, 100, 12},
            {-100, 100, 100, 100, 3}};
        for (int[] n : points) {
            due("at(" + n[0] + ", " + n[1] + ", " + n[2] + ", " + n[3] + ")", () -> x.at(n[0], n[1], n[2], n[3]), n[4]);
        }
        int[][] refused = {{101, 1, 0, 1}, {-101, 1, 0, 1}, {0, 101, 0, 1}, {0, 0, 0, 1}, {0, -1, 0, 1},
            {0, 1, 101, 1}, {0, 1, -101, 1}, {0, 1, 0, 101}, {0, 1, 0, 0}, {0, 1, 0, -1}, {0, -101, 0, 1},
            {Integer.MIN_VALUE, 1, 0, 1}, {0, Integer.MAX_VALUE, 0, 1}, {0, 1, Integer.MAX_VALUE, 1},
            {0, 1, 0, Integer.MIN_VALUE}};
        for (int[] n : refused) {
            dueThrow("at(" + n[0] + ", " + n[1] + ", " + n[2] + ", " + n[3] + ")",
                    () -> x.at(n[0], n[1], n[2], n[3]), ARGUMENT);
        }
    }

    private static void find() {
        Plane x = of(1, 1, 0, 1, -1, 0);
        int[][] want = {{0, 0}, {1, 4}, {2, 0}, {3, 3}, {4, 0}, {8, 2}, {12, 1}, {5, 9 + 1}, {6, 0}, {9, 4}, {10, 2},
            {15, 6}, {7, 9}, {11, 3}, {13, 11}, {14, 1}, {16, 0}, {-1, 6}, {-16, 0}, {0x7FFFFFF5, 10},
            {Integer.MIN_VALUE, 0}};
        for (int[] n : want) {
            due("find(" + n[0] + ")", () -> x.find(n[0]), n[1]);
        }
        Plane parallel = of(0, 1, 0, 0, 1, -1);
        due("find both 0 of parallels", () -> parallel.find(15), -1);
        due("find below the lower, above the upper", () -> parallel.find(6), -1);
        due("find bits beyond", () -> parallel.find(-16), 0);
        due("find the sixth", () -> ofSix().find(3 << 10), ofSix().find(3 << 2));
        due("find, bits behind the sixth", () -> ofSix().find(-1 << 12), 0);
        due("find all six 0", () -> of(1, 0, 0, 0, 1, 0, 1, 1, 0, 1, -1, 0, 2, 1, 0, 1, 2, 0).find(0xFFF), 12);
        due("find in uprights", () -> of(-1, 0, 1).find(1), 0);
    }

    private static void touch() {
        Plane x = of(1, 1, 0, 1, -1, 0);
        // By cell: the others that it touches.
        int[][] want = {{1, 5, 6}, {0, 2, 6}, {1, 3, 6}, {2, 4, 6}, {3, 6, 7}, {0, 6, 8}, {0, 1, 2, 3, 4, 5, 7, 8, 9,
            10, 11, 12}, {4, 6, 12}, {5, 6, 9}, {6, 8, 10}, {6, 9, 11}, {6, 10, 12}, {6, 7, 11}};
        for (int k = 0; k < want.length; k++) {
            long touched = 1L << k;
            for (int n : want[k]) {
                touched |= 1L << n;
            }
            for (int n = 0; n < want.length; n++) {
                int one = k;
                int other = n;
                due("touch(" + k + ", " + n + ")", () -> one(x.touch(one, other)), touched >> n & 1);
            }
        }
        dueThrow("touch(13, 0)", () -> one(x.touch(13, 0)), INDEX);
        dueThrow("touch(0, 13)", () -> one(x.touch(0, 13)), INDEX);
        for (int n : WRONG) {
            dueThrow("touch(" + n + ", 0)", () -> one(x.touch(n, 0)), INDEX);
            dueThrow("touch(0, " + n + ")", () -> one(x.touch(0, n)), INDEX);
            dueThrow("touch(" + n + ", " + n + ")", () -> one(x.touch(n, n)), INDEX);
        }
    }

    private static void lines() {
        Plane x = new Plane();
        for (int k = 0; k < 6; k++) {
            due("lines()", x::lines, k);
            x.line(1, 1, 1);
        }
        due("lines() when full", x::lines, 6);
        x.drop(3);
        due("lines() behind a drop", x::lines, 5);
    }

    private static void manyCalls() {
        Plane x = ofSix();
        String before = ofSix().picture();
        for (int k = 0; k < 150; k++) {
            x.drop(5);
            due("line again", () -> x.line(0, 1, -1), 5);
        }
        due("after many calls", () -> one(before.equals(x.picture())), 1);
    }

    public static void main(String[] args) {
        newObject();
        objectsAreApart();
        line();
        drop();
        cuts();
        cut();
        curves();
        total();
        cell();
        sample();
        sign();
        at();
        find();
        touch();
        lines();
        manyCalls();
        end();
    }
}
